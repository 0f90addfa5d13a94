def wX4_count   (s0 : Mem) (Q : Int32 → Mem → Prop) (E : String → Mem → Prop) : Prop := Q (rd s0 5 0 2) s0
set_option maxRecDepth 20000 in
set_option maxHeartbeats 4000000 in
theorem oX4_count {l : Launch} {x : Ctx} (hl : l.stackTraces = false)     (s0 : Mem) (Q : Int32 → Mem → Prop) (E : String → Mem → Prop) (h : wX4_count   s0 Q E) : MetG l x yX4_count cX4_count 1 (some .int) 0 0 0 0 [.ref (xad x 5 0)] s0 (RI Q) E := by
  refine MetG.of hl (by decide) (Nat.le_of_ble_eq_true rfl) [some (.ref (xad x 5 0))] rfl (fun K B hx _ => ?_)
  subst hx
  unfold wX4_count at h
  refine g_aload_n (np := 1) B.1 dX4_count_0 rfl rfl ?_
  refine gf_YHistory_18_5 (np := 4) B.1 dX4_count_1 rfl ?_
  exact g_iret B (ty := .int) rfl rfl (Nat.le_of_ble_eq_true rfl) (Nat.le_of_ble_eq_true rfl) dX4_count_4 ⟨_, rfl, h⟩
def wX4_record (k : Nat)  (s0 : Mem) (Q : Mem → Prop) (E : String → Mem → Prop) : Prop := vp_in (rd s0 5 0 1) 8 ∧ wX10_copyFrom (3 + (rd s0 5 0 1).toNatClampNeg) k  s0 (fun (s3 : Mem) => ((8 ≤ (rd s3 5 0 1) + 1 → ∀ s4 : Mem, s4 = wr s3 5 0 1 0 → ∀ s5 : Mem, s5 = wr s4 5 0 2 (if 8 < ((rd s4 5 0 2) + 1) then 8 else ((rd s4 5 0 2) + 1)) → Q s5) ∧ (¬ 8 ≤ (rd s3 5 0 1) + 1 → ∀ s6 : Mem, s6 = wr s3 5 0 1 ((rd s3 5 0 1) + 1) → ∀ s7 : Mem, s7 = wr s6 5 0 2 (if 8 < ((rd s6 5 0 2) + 1) then 8 else ((rd s6 5 0 2) + 1)) → Q s7))) E
set_option maxRecDepth 20000 in
set_option maxHeartbeats 4000000 in
theorem oX4_record {l : Launch} {x : Ctx} (hl : l.stackTraces = false) (k : Nat) (hk : k < 11)   (s0 : Mem) (Q : Mem → Prop) (E : String → Mem → Prop) (h : wX4_record k  s0 Q E) : MetG l x yX4_record cX4_record 3 none 4 123 0 0 [.ref (xad x 5 0), .ref (xad x 4 k)] s0 (RV Q) E := by
  refine MetG.of hl (by decide) (Nat.le_of_ble_eq_true rfl) [some (.ref (xad x 5 0)), some (.ref (xad x 4 k)), none] rfl (fun K B hx _ => ?_)
  subst hx
  unfold wX4_record at h
  refine g_aload_n (np := 1) B.1 dX4_record_0 rfl rfl ?_
  refine gf_YHistory_11_5 (np := 4) B.1 dX4_record_1 rfl ?_
  refine g_aload_n (np := 5) B.1 dX4_record_4 rfl rfl ?_
  refine gf_YHistory_22_5 (np := 8) B.1 dX4_record_5 rfl ?_
  have hr1 : 3 + (rd s0 5 0 1).toNatClampNeg < 11 := ring_lt h.1
  refine g_ring (np := 9) B.1 h.1 dX4_record_8 rfl ?_
  replace h := h.2
  refine g_astore_n (np := 10) (lv' := [some (.ref (xad (fX K) 5 0)), some (.ref (xad (fX K) 4 k)), some (.ref (xad (fX K) 4 (3 + (rd s0 5 0 1).toNatClampNeg)))]) B.1 dX4_record_9 (by decide) rfl rfl rfl ?_
  refine g_aload_n (np := 11) B.1 dX4_record_10 rfl rfl ?_
  refine g_ifnull (np := 14) B.1 dX4_record_11 rfl ?_
  refine g_aload_n (np := 15) B.1 dX4_record_14 rfl rfl ?_
  refine g_aload_n (np := 16) B.1 dX4_record_15 rfl rfl ?_
  refine gc_YHistory_25 (np := 19) B (3 + (rd s0 5 0 1).toNatClampNeg) k hr1 hk (oX10_copyFrom B.1.tr (3 + (rd s0 5 0 1).toNatClampNeg) k hr1 hk   _ _ _ h) (Nat.le_of_ble_eq_true rfl) (Nat.le_of_ble_eq_true rfl) (Nat.le_of_ble_eq_true rfl) (Nat.le_of_ble_eq_true rfl) (Nat.le_of_ble_eq_true rfl) dX4_record_16 rfl (fun s3 h => ?_)
  refine g_aload_n (np := 20) B.1 dX4_record_19 rfl rfl ?_
  refine g_aload_n (np := 21) B.1 dX4_record_20 rfl rfl ?_
  refine gf_YHistory_22_5 (np := 24) B.1 dX4_record_21 rfl ?_
  refine g_iconst (np := 25) (v := 1) B.1 dX4_record_24 (by decide) rfl ?_
  refine g_iadd (np := 26) B.1 dX4_record_25 rfl ?_
  refine g_aload_n (np := 27) B.1 dX4_record_26 rfl rfl ?_
  refine gf_YHistory_11_5 (np := 30) B.1 dX4_record_27 rfl ?_
  refine g_alen (np := 31) B.1 6 0 (by decide : (0 : Nat) < 1) rfl rfl (t0 := 4) rfl (v := 8) (by show Int32.ofNat 8 = 8; decide) dX4_record_30 rfl ?_
  refine g_icmp_ge (np := 34) (tgt := 43) B.1 dX4_record_31 (by decide) rfl (fun q => ?_) (fun q => ?_)
  · replace h := h.1 q
    refine g_iconst (np := 44) (v := 0) B.1 dX4_record_43 (by decide) rfl ?_
    refine gp_YHistory_22_5 (np := 47) B.1 dX4_record_44 rfl ?_
    refine g_mem (fun s4 es4 => ?_)
    replace h := h s4 es4
    refine g_aload_n (np := 48) B.1 dX4_record_47 rfl rfl ?_
    refine g_aload_n (np := 49) B.1 dX4_record_48 rfl rfl ?_
    refine gf_YHistory_18_5 (np := 52) B.1 dX4_record_49 rfl ?_
    refine g_iconst (np := 53) (v := 1) B.1 dX4_record_52 (by decide) rfl ?_
    refine g_iadd (np := 54) B.1 dX4_record_53 rfl ?_
    refine g_aload_n (np := 55) B.1 dX4_record_54 rfl rfl ?_
    refine gf_YHistory_11_5 (np := 58) B.1 dX4_record_55 rfl ?_
    refine g_alen (np := 59) B.1 6 0 (by decide : (0 : Nat) < 1) rfl rfl (t0 := 4) rfl (v := 8) (by show Int32.ofNat 8 = 8; decide) dX4_record_58 rfl ?_
    refine g_mmin (np := 62) B.1 b_696 b_155 b_30 b_156 (by rw [B.2.1]; exact Nat.le_of_ble_eq_true rfl) (by rw [B.2.1]; exact Nat.le_of_ble_eq_true rfl) (by rw [B.2.1]; exact (Nat.le_of_ble_eq_true rfl)) (by rw [B.2.1]; exact (Nat.le_of_ble_eq_true rfl)) dX4_record_59 rfl ?_
    refine gp_YHistory_18_5 (np := 65) B.1 dX4_record_62 rfl ?_
    refine g_mem (fun s5 es5 => ?_)
    replace h := h s5 es5
    exact g_vret B rfl (Nat.le_of_ble_eq_true rfl) (Nat.le_of_ble_eq_true rfl) dX4_record_65 ⟨rfl, h⟩
  · replace h := h.2 q
    refine g_aload_n (np := 35) B.1 dX4_record_34 rfl rfl ?_
    refine gf_YHistory_22_5 (np := 38) B.1 dX4_record_35 rfl ?_
    refine g_iconst (np := 39) (v := 1) B.1 dX4_record_38 (by decide) rfl ?_
    refine g_iadd (np := 40) B.1 dX4_record_39 rfl ?_
    refine g_goto (tgt := 44) B.1 dX4_record_40 (by decide) ?_
    refine gp_YHistory_22_5 (np := 47) B.1 dX4_record_44 rfl ?_
    refine g_mem (fun s6 es6 => ?_)
    replace h := h s6 es6
    refine g_aload_n (np := 48) B.1 dX4_record_47 rfl rfl ?_
    refine g_aload_n (np := 49) B.1 dX4_record_48 rfl rfl ?_
    refine gf_YHistory_18_5 (np := 52) B.1 dX4_record_49 rfl ?_
    refine g_iconst (np := 53) (v := 1) B.1 dX4_record_52 (by decide) rfl ?_
    refine g_iadd (np := 54) B.1 dX4_record_53 rfl ?_
    refine g_aload_n (np := 55) B.1 dX4_record_54 rfl rfl ?_
    refine gf_YHistory_11_5 (np := 58) B.1 dX4_record_55 rfl ?_
    refine g_alen (np := 59) B.1 6 0 (by decide : (0 : Nat) < 1) rfl rfl (t0 := 4) rfl (v := 8) (by show Int32.ofNat 8 = 8; decide) dX4_record_58 rfl ?_
    refine g_mmin (np := 62) B.1 b_696 b_155 b_30 b_156 (by rw [B.2.1]; exact Nat.le_of_ble_eq_true rfl) (by rw [B.2.1]; exact Nat.le_of_ble_eq_true rfl) (by rw [B.2.1]; exact (Nat.le_of_ble_eq_true rfl)) (by rw [B.2.1]; exact (Nat.le_of_ble_eq_true rfl)) dX4_record_59 rfl ?_
    refine gp_YHistory_18_5 (np := 65) B.1 dX4_record_62 rfl ?_
    refine g_mem (fun s7 es7 => ?_)
    replace h := h s7 es7
    exact g_vret B rfl (Nat.le_of_ble_eq_true rfl) (Nat.le_of_ble_eq_true rfl) dX4_record_65 ⟨rfl, h⟩
def wX4_takeBack   (s0 : Mem) (Q : Mem → Prop) (E : String → Mem → Prop) : Prop := ((¬ rd s0 5 0 2 = 0 → ((rd s0 5 0 1 ≤ 0 → ∀ s1 : Mem, s1 = wr s0 5 0 1 7 → ∀ s2 : Mem, s2 = wr s1 5 0 2 ((rd s1 5 0 2) - 1) → vp_in (rd s2 5 0 1) 8 ∧ wX10_copyFrom 0 (3 + (rd s2 5 0 1).toNatClampNeg)  s2 (fun (s5 : Mem) => Q s5) E) ∧ (¬ rd s0 5 0 1 ≤ 0 → ∀ s6 : Mem, s6 = wr s0 5 0 1 ((rd s0 5 0 1) - 1) → ∀ s7 : Mem, s7 = wr s6 5 0 2 ((rd s6 5 0 2) - 1) → vp_in (rd s7 5 0 1) 8 ∧ wX10_copyFrom 0 (3 + (rd s7 5 0 1).toNatClampNeg)  s7 (fun (s10 : Mem) => Q s10) E))) ∧ (rd s0 5 0 2 = 0 → Q s0))
set_option maxRecDepth 20000 in
set_option maxHeartbeats 4000000 in
theorem oX4_takeBack {l : Launch} {x : Ctx} (hl : l.stackTraces = false)     (s0 : Mem) (Q : Mem → Prop) (E : String → Mem → Prop) (h : wX4_takeBack   s0 Q E) : MetG l x yX4_takeBack cX4_takeBack 3 none 4 123 0 0 [.ref (xad x 5 0), .ref (xad x 4 0)] s0 (RV Q) E := by
  refine MetG.of hl (by decide) (Nat.le_of_ble_eq_true rfl) [some (.ref (xad x 5 0)), some (.ref (xad x 4 0)), none] rfl (fun K B hx _ => ?_)
  subst hx
  unfold wX4_takeBack at h
  refine g_aload_n (np := 1) B.1 dX4_takeBack_0 rfl rfl ?_
  refine gf_YHistory_18_5 (np := 4) B.1 dX4_takeBack_1 rfl ?_
  refine g_if_ne (np := 7) (tgt := 8) B.1 dX4_takeBack_4 (by decide) rfl (fun q => ?_) (fun q => ?_)
  · replace h := h.1 q
    refine g_aload_n (np := 9) B.1 dX4_takeBack_8 rfl rfl ?_
    refine g_aload_n (np := 10) B.1 dX4_takeBack_9 rfl rfl ?_
    refine gf_YHistory_22_5 (np := 13) B.1 dX4_takeBack_10 rfl ?_
    refine g_if_le (np := 16) (tgt := 25) B.1 dX4_takeBack_13 (by decide) rfl (fun q => ?_) (fun q => ?_)
    · replace h := h.1 q
      refine g_aload_n (np := 26) B.1 dX4_takeBack_25 rfl rfl ?_
      refine gf_YHistory_11_5 (np := 29) B.1 dX4_takeBack_26 rfl ?_
      refine g_alen (np := 30) B.1 6 0 (by decide : (0 : Nat) < 1) rfl rfl (t0 := 4) rfl (v := 8) (by show Int32.ofNat 8 = 8; decide) dX4_takeBack_29 rfl ?_
      refine g_iconst (np := 31) (v := 1) B.1 dX4_takeBack_30 (by decide) rfl ?_
      refine g_isub (np := 32) B.1 dX4_takeBack_31 rfl ?_
      refine Go.eq rfl rfl rfl (st' := .int 7 :: .ref (xad (fX K) 5 0) :: []) (congrArg (fun z => Value.int z :: _) (by decide : (8 - 1 : Int32) = 7)) ?_
      refine gp_YHistory_22_5 (np := 35) B.1 dX4_takeBack_32 rfl ?_
      refine g_mem (fun s1 es1 => ?_)
      replace h := h s1 es1
      refine g_aload_n (np := 36) B.1 dX4_takeBack_35 rfl rfl ?_
      refine g_dup (np := 37) B.1 dX4_takeBack_36 rfl rfl ?_
      refine gf_YHistory_18_5 (np := 40) B.1 dX4_takeBack_37 rfl ?_
      refine g_iconst (np := 41) (v := 1) B.1 dX4_takeBack_40 (by decide) rfl ?_
      refine g_isub (np := 42) B.1 dX4_takeBack_41 rfl ?_
      refine gp_YHistory_18_5 (np := 45) B.1 dX4_takeBack_42 rfl ?_
      refine g_mem (fun s2 es2 => ?_)
      replace h := h s2 es2
      refine g_aload_n (np := 46) B.1 dX4_takeBack_45 rfl rfl ?_
      refine gf_YHistory_11_5 (np := 49) B.1 dX4_takeBack_46 rfl ?_
      refine g_aload_n (np := 50) B.1 dX4_takeBack_49 rfl rfl ?_
      refine gf_YHistory_22_5 (np := 53) B.1 dX4_takeBack_50 rfl ?_
      have hr3 : 3 + (rd s2 5 0 1).toNatClampNeg < 11 := ring_lt h.1
      refine g_ring (np := 54) B.1 h.1 dX4_takeBack_53 rfl ?_
      replace h := h.2
      refine g_astore_n (np := 55) (lv' := [some (.ref (xad (fX K) 5 0)), some (.ref (xad (fX K) 4 0)), some (.ref (xad (fX K) 4 (3 + (rd s2 5 0 1).toNatClampNeg)))]) B.1 dX4_takeBack_54 (by decide) rfl rfl rfl ?_
      refine g_aload_n (np := 56) B.1 dX4_takeBack_55 rfl rfl ?_
      refine g_ifnull (np := 59) B.1 dX4_takeBack_56 rfl ?_
      refine g_aload_n (np := 60) B.1 dX4_takeBack_59 rfl rfl ?_
      refine g_aload_n (np := 61) B.1 dX4_takeBack_60 rfl rfl ?_
      refine gc_YHistory_25 (np := 64) B 0 (3 + (rd s2 5 0 1).toNatClampNeg) (by decide : (0 : Nat) < 11) hr3 (oX10_copyFrom B.1.tr 0 (3 + (rd s2 5 0 1).toNatClampNeg) (by decide : (0 : Nat) < 11) hr3   _ _ _ h) (Nat.le_of_ble_eq_true rfl) (Nat.le_of_ble_eq_true rfl) (Nat.le_of_ble_eq_true rfl) (Nat.le_of_ble_eq_true rfl) (Nat.le_of_ble_eq_true rfl) dX4_takeBack_61 rfl (fun s5 h => ?_)
      exact g_vret B rfl (Nat.le_of_ble_eq_true rfl) (Nat.le_of_ble_eq_true rfl) dX4_takeBack_64 ⟨rfl, h⟩
    · replace h := h.2 q
      refine g_aload_n (np := 17) B.1 dX4_takeBack_16 rfl rfl ?_
      refine gf_YHistory_22_5 (np := 20) B.1 dX4_takeBack_17 rfl ?_
      refine g_iconst (np := 21) (v := 1) B.1 dX4_takeBack_20 (by decide) rfl ?_
      refine g_isub (np := 22) B.1 dX4_takeBack_21 rfl ?_
      refine g_goto (tgt := 32) B.1 dX4_takeBack_22 (by decide) ?_
      refine gp_YHistory_22_5 (np := 35) B.1 dX4_takeBack_32 rfl ?_
      refine g_mem (fun s6 es6 => ?_)
      replace h := h s6 es6
      refine g_aload_n (np := 36) B.1 dX4_takeBack_35 rfl rfl ?_
      refine g_dup (np := 37) B.1 dX4_takeBack_36 rfl rfl ?_
      refine gf_YHistory_18_5 (np := 40) B.1 dX4_takeBack_37 rfl ?_
      refine g_iconst (np := 41) (v := 1) B.1 dX4_takeBack_40 (by decide) rfl ?_
      refine g_isub (np := 42) B.1 dX4_takeBack_41 rfl ?_
      refine gp_YHistory_18_5 (np := 45) B.1 dX4_takeBack_42 rfl ?_
      refine g_mem (fun s7 es7 => ?_)
      replace h := h s7 es7
      refine g_aload_n (np := 46) B.1 dX4_takeBack_45 rfl rfl ?_
      refine gf_YHistory_11_5 (np := 49) B.1 dX4_takeBack_46 rfl ?_
      refine g_aload_n (np := 50) B.1 dX4_takeBack_49 rfl rfl ?_
      refine gf_YHistory_22_5 (np := 53) B.1 dX4_takeBack_50 rfl ?_
      have hr8 : 3 + (rd s7 5 0 1).toNatClampNeg < 11 := ring_lt h.1
      refine g_ring (np := 54) B.1 h.1 dX4_takeBack_53 rfl ?_
      replace h := h.2
      refine g_astore_n (np := 55) (lv' := [some (.ref (xad (fX K) 5 0)), some (.ref (xad (fX K) 4 0)), some (.ref (xad (fX K) 4 (3 + (rd s7 5 0 1).toNatClampNeg)))]) B.1 dX4_takeBack_54 (by decide) rfl rfl rfl ?_
      refine g_aload_n (np := 56) B.1 dX4_takeBack_55 rfl rfl ?_
      refine g_ifnull (np := 59) B.1 dX4_takeBack_56 rfl ?_
      refine g_aload_n (np := 60) B.1 dX4_takeBack_59 rfl rfl ?_
      refine g_aload_n (np := 61) B.1 dX4_takeBack_60 rfl rfl ?_
      refine gc_YHistory_25 (np := 64) B 0 (3 + (rd s7 5 0 1).toNatClampNeg) (by decide : (0 : Nat) < 11) hr8 (oX10_copyFrom B.1.tr 0 (3 + (rd s7 5 0 1).toNatClampNeg) (by decide : (0 : Nat) < 11) hr8   _ _ _ h) (Nat.le_of_ble_eq_true rfl) (Nat.le_of_ble_eq_true rfl) (Nat.le_of_ble_eq_true rfl) (Nat.le_of_ble_eq_true rfl) (Nat.le_of_ble_eq_true rfl) dX4_takeBack_61 rfl (fun s10 h => ?_)
      exact g_vret B rfl (Nat.le_of_ble_eq_true rfl) (Nat.le_of_ble_eq_true rfl) dX4_takeBack_64 ⟨rfl, h⟩
  · replace h := h.2 q
    exact g_vret B rfl (Nat.le_of_ble_eq_true rfl) (Nat.le_of_ble_eq_true rfl) dX4_takeBack_7 ⟨rfl, h⟩
def wX4_forget   (s0 : Mem) (Q : Mem → Prop) (E : String → Mem → Prop) : Prop := ∀ s1 : Mem, s1 = wr s0 5 0 2 0 → Q s1
set_option maxRecDepth 20000 in
set_option maxHeartbeats 4000000 in
theorem oX4_forget {l : Launch} {x : Ctx} (hl : l.stackTraces = false)     (s0 : Mem) (Q : Mem → Prop) (E : String → Mem → Prop) (h : wX4_forget   s0 Q E) : MetG l x yX4_forget cX4_forget 1 none 0 0 0 0 [.ref (xad x 5 0)] s0 (RV Q) E := by
  refine MetG.of hl (by decide) (Nat.le_of_ble_eq_true rfl) [some (.ref (xad x 5 0))] rfl (fun K B hx _ => ?_)
  subst hx
  unfold wX4_forget at h
  refine g_aload_n (np := 1) B.1 dX4_forget_0 rfl rfl ?_
  refine g_iconst (np := 2) (v := 0) B.1 dX4_forget_1 (by decide) rfl ?_
  refine gp_YHistory_18_5 (np := 5) B.1 dX4_forget_2 rfl ?_
  refine g_mem (fun s1 es1 => ?_)
  replace h := h s1 es1
  exact g_vret B rfl (Nat.le_of_ble_eq_true rfl) (Nat.le_of_ble_eq_true rfl) dX4_forget_5 ⟨rfl, h⟩
