/-! THE LAW'S CALLS IN A TRY -/
theorem t_297 : Cond.castable "java/lang/IllegalArgumentException" "java/lang/IllegalArgumentException" ∈ lw_tbl := List.mem_of_getElem? (i := 297) (by decide +kernel)
theorem b_504 : Cond.classLink "YarnMillLaw" 15 "java/lang/IllegalArgumentException" ∈ lw_good := bB 504 (by decide +kernel) (by decide +kernel)
theorem b_505 : Cond.classLink "YarnMillLaw" 18 "java/lang/IllegalStateException" ∈ lw_good := bB 505 (by decide +kernel) (by decide +kernel)
theorem b_506 : Cond.classLink "YarnMillLaw" 21 "java/lang/UnsupportedOperationException" ∈ lw_good := bB 506 (by decide +kernel) (by decide +kernel)
theorem b_507 : Cond.methodLink "YarnMillLaw" 9 yX12_buyBale ∈ lw_good := bB 507 (by decide +kernel) (by decide +kernel)
theorem b_508 : Cond.instanceMethod yX12_buyBale ∈ lw_good := bB 508 (by decide +kernel) (by decide +kernel)
theorem b_509 : Cond.selects "YarnMill" yX12_buyBale yX12_buyBale ∈ lw_good := bB 509 (by decide +kernel) (by decide +kernel)
theorem b_510 : Cond.code yX12_buyBale cX12_buyBale 4 (some .int) ∈ lw_good := bB 510 (by decide +kernel) (by decide +kernel)
theorem t_632 : Cond.castable "java/lang/IllegalStateException" "java/lang/IllegalStateException" ∈ lw_tbl := List.mem_of_getElem? (i := 632) (by decide +kernel)
theorem t_648 : Cond.castable "java/lang/UnsupportedOperationException" "java/lang/UnsupportedOperationException" ∈ lw_tbl := List.mem_of_getElem? (i := 648) (by decide +kernel)
theorem t_664 : Cond.castable "java/util/NoSuchElementException" "java/util/NoSuchElementException" ∈ lw_tbl := List.mem_of_getElem? (i := 664) (by decide +kernel)
theorem t_680 : Cond.castable "java/lang/IndexOutOfBoundsException" "java/lang/IndexOutOfBoundsException" ∈ lw_tbl := List.mem_of_getElem? (i := 680) (by decide +kernel)
theorem b_802 : Cond.constant "YarnMillLaw" 17 (-900001 : Int32) ∈ lw_good := bB 802 (by decide +kernel) (by decide +kernel)
theorem b_803 : Cond.constant "YarnMillLaw" 20 (-900002 : Int32) ∈ lw_good := bB 803 (by decide +kernel) (by decide +kernel)
theorem b_804 : Cond.constant "YarnMillLaw" 23 (-900003 : Int32) ∈ lw_good := bB 804 (by decide +kernel) (by decide +kernel)
theorem b_808 : Cond.methodLink "YarnMillLaw" 24 yX12_blend ∈ lw_good := bB 808 (by decide +kernel) (by decide +kernel)
theorem b_809 : Cond.instanceMethod yX12_blend ∈ lw_good := bB 809 (by decide +kernel) (by decide +kernel)
theorem b_810 : Cond.selects "YarnMill" yX12_blend yX12_blend ∈ lw_good := bB 810 (by decide +kernel) (by decide +kernel)
theorem b_811 : Cond.code yX12_blend cX12_blend 3 (some .int) ∈ lw_good := bB 811 (by decide +kernel) (by decide +kernel)
theorem b_817 : Cond.methodLink "YarnMillLaw" 28 yX12_addOrder ∈ lw_good := bB 817 (by decide +kernel) (by decide +kernel)
theorem b_818 : Cond.instanceMethod yX12_addOrder ∈ lw_good := bB 818 (by decide +kernel) (by decide +kernel)
theorem b_819 : Cond.selects "YarnMill" yX12_addOrder yX12_addOrder ∈ lw_good := bB 819 (by decide +kernel) (by decide +kernel)
theorem b_820 : Cond.code yX12_addOrder cX12_addOrder 3 (some .int) ∈ lw_good := bB 820 (by decide +kernel) (by decide +kernel)
theorem b_826 : Cond.classLink "YarnMillLaw" 35 "java/util/NoSuchElementException" ∈ lw_good := bB 826 (by decide +kernel) (by decide +kernel)
theorem b_827 : Cond.methodLink "YarnMillLaw" 40 yX12_spin ∈ lw_good := bB 827 (by decide +kernel) (by decide +kernel)
theorem b_828 : Cond.instanceMethod yX12_spin ∈ lw_good := bB 828 (by decide +kernel) (by decide +kernel)
theorem b_829 : Cond.selects "YarnMill" yX12_spin yX12_spin ∈ lw_good := bB 829 (by decide +kernel) (by decide +kernel)
theorem b_830 : Cond.code yX12_spin cX12_spin 2 (some .int) ∈ lw_good := bB 830 (by decide +kernel) (by decide +kernel)
theorem b_836 : Cond.classLink "YarnMillLaw" 46 "java/lang/IndexOutOfBoundsException" ∈ lw_good := bB 836 (by decide +kernel) (by decide +kernel)
theorem b_839 : Cond.methodLink "YarnMillLaw" 52 yX12_sell ∈ lw_good := bB 839 (by decide +kernel) (by decide +kernel)
theorem b_840 : Cond.instanceMethod yX12_sell ∈ lw_good := bB 840 (by decide +kernel) (by decide +kernel)
theorem b_841 : Cond.selects "YarnMill" yX12_sell yX12_sell ∈ lw_good := bB 841 (by decide +kernel) (by decide +kernel)
theorem b_842 : Cond.code yX12_sell cX12_sell 2 (some .int) ∈ lw_good := bB 842 (by decide +kernel) (by decide +kernel)
theorem b_848 : Cond.methodLink "YarnMillLaw" 61 yX12_orderByTime ∈ lw_good := bB 848 (by decide +kernel) (by decide +kernel)
theorem b_849 : Cond.instanceMethod yX12_orderByTime ∈ lw_good := bB 849 (by decide +kernel) (by decide +kernel)
theorem b_850 : Cond.selects "YarnMill" yX12_orderByTime yX12_orderByTime ∈ lw_good := bB 850 (by decide +kernel) (by decide +kernel)
theorem b_851 : Cond.code yX12_orderByTime cX12_orderByTime 2 (some .int) ∈ lw_good := bB 851 (by decide +kernel) (by decide +kernel)
theorem b_874 : Cond.methodLink "YarnMillLaw" 64 yX12_longestPiece ∈ lw_good := bB 874 (by decide +kernel) (by decide +kernel)
theorem b_875 : Cond.instanceMethod yX12_longestPiece ∈ lw_good := bB 875 (by decide +kernel) (by decide +kernel)
theorem b_876 : Cond.selects "YarnMill" yX12_longestPiece yX12_longestPiece ∈ lw_good := bB 876 (by decide +kernel) (by decide +kernel)
theorem b_877 : Cond.code yX12_longestPiece cX12_longestPiece 1 (some .int) ∈ lw_good := bB 877 (by decide +kernel) (by decide +kernel)
theorem b_886 : Cond.methodLink "YarnMillLaw" 67 yX12_pieceByLength ∈ lw_good := bB 886 (by decide +kernel) (by decide +kernel)
theorem b_887 : Cond.instanceMethod yX12_pieceByLength ∈ lw_good := bB 887 (by decide +kernel) (by decide +kernel)
theorem b_888 : Cond.selects "YarnMill" yX12_pieceByLength yX12_pieceByLength ∈ lw_good := bB 888 (by decide +kernel) (by decide +kernel)
theorem b_889 : Cond.code yX12_pieceByLength cX12_pieceByLength 2 (some .int) ∈ lw_good := bB 889 (by decide +kernel) (by decide +kernel)
theorem b_893 : Cond.methodLink "YarnMillLaw" 73 yX12_undo ∈ lw_good := bB 893 (by decide +kernel) (by decide +kernel)
theorem b_894 : Cond.instanceMethod yX12_undo ∈ lw_good := bB 894 (by decide +kernel) (by decide +kernel)
theorem b_895 : Cond.selects "YarnMill" yX12_undo yX12_undo ∈ lw_good := bB 895 (by decide +kernel) (by decide +kernel)
theorem b_896 : Cond.code yX12_undo cX12_undo 1 (some .int) ∈ lw_good := bB 896 (by decide +kernel) (by decide +kernel)
theorem b_909 : Cond.methodLink "YarnMillLaw" 76 yX12_restore ∈ lw_good := bB 909 (by decide +kernel) (by decide +kernel)
theorem b_910 : Cond.instanceMethod yX12_restore ∈ lw_good := bB 910 (by decide +kernel) (by decide +kernel)
theorem b_911 : Cond.selects "YarnMill" yX12_restore yX12_restore ∈ lw_good := bB 911 (by decide +kernel) (by decide +kernel)
theorem b_912 : Cond.code yX12_restore cX12_restore 1 (some .int) ∈ lw_good := bB 912 (by decide +kernel) (by decide +kernel)
theorem b_921 : Cond.methodLink "YarnMillLaw" 79 yX12_isInBlend ∈ lw_good := bB 921 (by decide +kernel) (by decide +kernel)
theorem b_922 : Cond.instanceMethod yX12_isInBlend ∈ lw_good := bB 922 (by decide +kernel) (by decide +kernel)
theorem b_923 : Cond.selects "YarnMill" yX12_isInBlend yX12_isInBlend ∈ lw_good := bB 923 (by decide +kernel) (by decide +kernel)
theorem b_924 : Cond.code yX12_isInBlend cX12_isInBlend 6 (some .boolean) ∈ lw_good := bB 924 (by decide +kernel) (by decide +kernel)
theorem b_1236 : Cond.methodLink "YarnMillLaw" 37 yX12_setMachines ∈ lw_good := bB 1236 (by decide +kernel) (by decide +kernel)
theorem b_1237 : Cond.instanceMethod yX12_setMachines ∈ lw_good := bB 1237 (by decide +kernel) (by decide +kernel)
theorem b_1238 : Cond.selects "YarnMill" yX12_setMachines yX12_setMachines ∈ lw_good := bB 1238 (by decide +kernel) (by decide +kernel)
theorem b_1239 : Cond.code yX12_setMachines cX12_setMachines 2 (some .int) ∈ lw_good := bB 1239 (by decide +kernel) (by decide +kernel)
theorem b_1273 : Cond.methodLink "YarnMillLaw" 31 yX12_cancelOrder ∈ lw_good := bB 1273 (by decide +kernel) (by decide +kernel)
theorem b_1274 : Cond.instanceMethod yX12_cancelOrder ∈ lw_good := bB 1274 (by decide +kernel) (by decide +kernel)
theorem b_1275 : Cond.selects "YarnMill" yX12_cancelOrder yX12_cancelOrder ∈ lw_good := bB 1275 (by decide +kernel) (by decide +kernel)
theorem b_1276 : Cond.code yX12_cancelOrder cX12_cancelOrder 2 (some .int) ∈ lw_good := bB 1276 (by decide +kernel) (by decide +kernel)
theorem b_1282 : Cond.methodLink "YarnMillLaw" 43 yX12_splice ∈ lw_good := bB 1282 (by decide +kernel) (by decide +kernel)
theorem b_1283 : Cond.instanceMethod yX12_splice ∈ lw_good := bB 1283 (by decide +kernel) (by decide +kernel)
theorem b_1284 : Cond.selects "YarnMill" yX12_splice yX12_splice ∈ lw_good := bB 1284 (by decide +kernel) (by decide +kernel)
theorem b_1285 : Cond.code yX12_splice cX12_splice 2 (some .int) ∈ lw_good := bB 1285 (by decide +kernel) (by decide +kernel)
theorem b_1291 : Cond.methodLink "YarnMillLaw" 48 yX12_spliceAll ∈ lw_good := bB 1291 (by decide +kernel) (by decide +kernel)
theorem b_1292 : Cond.instanceMethod yX12_spliceAll ∈ lw_good := bB 1292 (by decide +kernel) (by decide +kernel)
theorem b_1293 : Cond.selects "YarnMill" yX12_spliceAll yX12_spliceAll ∈ lw_good := bB 1293 (by decide +kernel) (by decide +kernel)
theorem b_1294 : Cond.code yX12_spliceAll cX12_spliceAll 1 (some .int) ∈ lw_good := bB 1294 (by decide +kernel) (by decide +kernel)
theorem b_1350 : Cond.methodLink "YarnMillLaw" 70 yX12_runScript ∈ lw_good := bB 1350 (by decide +kernel) (by decide +kernel)
theorem b_1351 : Cond.instanceMethod yX12_runScript ∈ lw_good := bB 1351 (by decide +kernel) (by decide +kernel)
theorem b_1352 : Cond.selects "YarnMill" yX12_runScript yX12_runScript ∈ lw_good := bB 1352 (by decide +kernel) (by decide +kernel)
theorem b_1353 : Cond.code yX12_runScript cX12_runScript 3 (some .int) ∈ lw_good := bB 1353 (by decide +kernel) (by decide +kernel)
theorem b_1561 : Cond.methodLink "YarnMillLaw" 55 yX12_blendValue ∈ lw_good := bB 1561 (by decide +kernel) (by decide +kernel)
theorem b_1562 : Cond.instanceMethod yX12_blendValue ∈ lw_good := bB 1562 (by decide +kernel) (by decide +kernel)
theorem b_1563 : Cond.selects "YarnMill" yX12_blendValue yX12_blendValue ∈ lw_good := bB 1563 (by decide +kernel) (by decide +kernel)
theorem b_1564 : Cond.code yX12_blendValue cX12_blendValue 3 (some .int) ∈ lw_good := bB 1564 (by decide +kernel) (by decide +kernel)
theorem b_1591 : Cond.methodLink "YarnMillLaw" 58 yX12_blendValueBySearch ∈ lw_good := bB 1591 (by decide +kernel) (by decide +kernel)
theorem b_1592 : Cond.instanceMethod yX12_blendValueBySearch ∈ lw_good := bB 1592 (by decide +kernel) (by decide +kernel)
theorem b_1593 : Cond.selects "YarnMill" yX12_blendValueBySearch yX12_blendValueBySearch ∈ lw_good := bB 1593 (by decide +kernel) (by decide +kernel)
theorem b_1594 : Cond.code yX12_blendValueBySearch cX12_blendValueBySearch 3 (some .int) ∈ lw_good := bB 1594 (by decide +kernel) (by decide +kernel)
def wL_buyBale (a2 : Int32) (a3 : Int32) (a4 : Int32) (s0 : Mem) (Q : Int32 → Mem → Prop) (_ : String → Mem → Prop) : Prop := wX12_buyBale a2 a3 a4 s0 (fun (r : Int32) τ => Q r τ) (fun E τ => (E = "java/lang/IllegalArgumentException" ∧ Q (-900001) τ) ∨ (E = "java/lang/IllegalStateException" ∧ Q (-900002) τ) ∨ (E = "java/lang/UnsupportedOperationException" ∧ Q (-900003) τ))
set_option maxRecDepth 20000 in
theorem oL_buyBale {l : Launch} {x : Ctx} (hl : l.stackTraces = false) (a2 : Int32) (a3 : Int32) (a4 : Int32) (s0 : Mem) (Q : Int32 → Mem → Prop) (E : String → Mem → Prop) (h : wL_buyBale a2 a3 a4 s0 Q E) : MetH l x yL_buyBale cL_buyBale 5 [(0, 7, 8, 15), (0, 7, 13, 18), (0, 7, 18, 21)] 9 192 1 6 [.ref (xad x 14 0), .int a2, .int a3, .int a4] s0 (RI Q) := by
  refine MetH.of hl (by decide) (Nat.le_of_ble_eq_true rfl) [some (.ref (xad x 14 0)), some (.int a2), some (.int a3), some (.int a4), none] rfl (fun K B hx _ => ?_)
  subst hx
  unfold wL_buyBale at h
  refine g_aload_n (np := 1) B.1 dL_buyBale_0 rfl rfl ?_
  refine g_iload_n (np := 2) B.1 dL_buyBale_1 rfl rfl ?_
  refine g_iload_n (np := 3) B.1 dL_buyBale_2 rfl rfl ?_
  refine g_iload_n (np := 4) B.1 dL_buyBale_3 rfl rfl ?_
  refine g_callX (np := 7) B (n := 3) (As := [.int a2, .int a3, .int a4]) (oX12_buyBale B.1.tr a2 a3 a4 s0 _ _ h) b_510 b_507 b_508 b_509 b_26 (by decide +kernel) rfl (Nat.le_of_ble_eq_true rfl) (Nat.le_of_ble_eq_true rfl) (Nat.le_of_ble_eq_true rfl) dL_buyBale_4 (Nat.le_of_ble_eq_true rfl) (Nat.le_of_ble_eq_true rfl) rfl (fun r s2 hr => ?_) (fun E s2 he => ?_)
  · obtain ⟨i, rfl, h⟩ := hr
    show Go K _ _ s2 7 [some (.ref (xad (fX K) 14 0)), some (.int a2), some (.int a3), some (.int a4), none] (.int i :: [])
    exact g_iretH B (Nat.le_of_ble_eq_true rfl) (Nat.le_of_ble_eq_true rfl) dL_buyBale_7 ⟨_, rfl, h⟩
  · rcases he with ⟨rfl, h⟩ | ⟨rfl, h⟩ | ⟨rfl, h⟩
    · refine ⟨[], ⟨0, 7, 8, 15⟩, [⟨0, 7, 13, 18⟩, ⟨0, 7, 18, 21⟩], "java/lang/IllegalArgumentException", rfl, (fun z hz => absurd hz List.not_mem_nil), rfl, by decide, b_504, t_297, fun q => ?_⟩
      refine g_astore (np := 10) (lv' := [some (.ref (xad (fX K) 14 0)), some (.int a2), some (.int a3), some (.int a4), some (.ref q)]) B.1 dL_buyBale_8 (by decide) rfl rfl rfl ?_
      refine g_ldc (v := (-900001)) (np := 12) B.1 b_802 dL_buyBale_10 rfl ?_
      exact g_iretH B (Nat.le_of_ble_eq_true rfl) (Nat.le_of_ble_eq_true rfl) dL_buyBale_12 ⟨_, rfl, h⟩
    · refine ⟨[⟨0, 7, 8, 15⟩], ⟨0, 7, 13, 18⟩, [⟨0, 7, 18, 21⟩], "java/lang/IllegalStateException", rfl, (fun z hz => by
          rcases List.mem_cons.mp hz with e | hz
          · subst e
            exact Or.inr ⟨by decide, "java/lang/IllegalArgumentException", b_504, B.1.nc "java/lang/IllegalStateException" (by decide) "java/lang/IllegalArgumentException" (by decide) (by decide)⟩
          exact absurd hz List.not_mem_nil), rfl, by decide, b_505, t_632, fun q => ?_⟩
      refine g_astore (np := 15) (lv' := [some (.ref (xad (fX K) 14 0)), some (.int a2), some (.int a3), some (.int a4), some (.ref q)]) B.1 dL_buyBale_13 (by decide) rfl rfl rfl ?_
      refine g_ldc (v := (-900002)) (np := 17) B.1 b_803 dL_buyBale_15 rfl ?_
      exact g_iretH B (Nat.le_of_ble_eq_true rfl) (Nat.le_of_ble_eq_true rfl) dL_buyBale_17 ⟨_, rfl, h⟩
    · refine ⟨[⟨0, 7, 8, 15⟩, ⟨0, 7, 13, 18⟩], ⟨0, 7, 18, 21⟩, [], "java/lang/UnsupportedOperationException", rfl, (fun z hz => by
          rcases List.mem_cons.mp hz with e | hz
          · subst e
            exact Or.inr ⟨by decide, "java/lang/IllegalArgumentException", b_504, B.1.nc "java/lang/UnsupportedOperationException" (by decide) "java/lang/IllegalArgumentException" (by decide) (by decide)⟩
          rcases List.mem_cons.mp hz with e | hz
          · subst e
            exact Or.inr ⟨by decide, "java/lang/IllegalStateException", b_505, B.1.nc "java/lang/UnsupportedOperationException" (by decide) "java/lang/IllegalStateException" (by decide) (by decide)⟩
          exact absurd hz List.not_mem_nil), rfl, by decide, b_506, t_648, fun q => ?_⟩
      refine g_astore (np := 20) (lv' := [some (.ref (xad (fX K) 14 0)), some (.int a2), some (.int a3), some (.int a4), some (.ref q)]) B.1 dL_buyBale_18 (by decide) rfl rfl rfl ?_
      refine g_ldc (v := (-900003)) (np := 22) B.1 b_804 dL_buyBale_20 rfl ?_
      exact g_iretH B (Nat.le_of_ble_eq_true rfl) (Nat.le_of_ble_eq_true rfl) dL_buyBale_22 ⟨_, rfl, h⟩
def wL_blend (a2 : Int32) (a3 : Int32) (s0 : Mem) (Q : Int32 → Mem → Prop) (_ : String → Mem → Prop) : Prop := wX12_blend a2 a3 s0 (fun (r : Int32) τ => Q r τ) (fun E τ => (E = "java/lang/IllegalArgumentException" ∧ Q (-900001) τ) ∨ (E = "java/lang/UnsupportedOperationException" ∧ Q (-900002) τ) ∨ (E = "java/lang/IllegalStateException" ∧ Q (-900003) τ))
set_option maxRecDepth 20000 in
theorem oL_blend {l : Launch} {x : Ctx} (hl : l.stackTraces = false) (a2 : Int32) (a3 : Int32) (s0 : Mem) (Q : Int32 → Mem → Prop) (E : String → Mem → Prop) (h : wL_blend a2 a3 s0 Q E) : MetH l x yL_blend cL_blend 4 [(0, 6, 7, 15), (0, 6, 11, 21), (0, 6, 15, 18)] 9 191 1 6 [.ref (xad x 14 0), .int a2, .int a3] s0 (RI Q) := by
  refine MetH.of hl (by decide) (Nat.le_of_ble_eq_true rfl) [some (.ref (xad x 14 0)), some (.int a2), some (.int a3), none] rfl (fun K B hx _ => ?_)
  subst hx
  unfold wL_blend at h
  refine g_aload_n (np := 1) B.1 dL_blend_0 rfl rfl ?_
  refine g_iload_n (np := 2) B.1 dL_blend_1 rfl rfl ?_
  refine g_iload_n (np := 3) B.1 dL_blend_2 rfl rfl ?_
  refine g_callX (np := 6) B (n := 2) (As := [.int a2, .int a3]) (oX12_blend B.1.tr a2 a3 s0 _ _ h) b_811 b_808 b_809 b_810 b_26 (by decide +kernel) rfl (Nat.le_of_ble_eq_true rfl) (Nat.le_of_ble_eq_true rfl) (Nat.le_of_ble_eq_true rfl) dL_blend_3 (Nat.le_of_ble_eq_true rfl) (Nat.le_of_ble_eq_true rfl) rfl (fun r s2 hr => ?_) (fun E s2 he => ?_)
  · obtain ⟨i, rfl, h⟩ := hr
    show Go K _ _ s2 6 [some (.ref (xad (fX K) 14 0)), some (.int a2), some (.int a3), none] (.int i :: [])
    exact g_iretH B (Nat.le_of_ble_eq_true rfl) (Nat.le_of_ble_eq_true rfl) dL_blend_6 ⟨_, rfl, h⟩
  · rcases he with ⟨rfl, h⟩ | ⟨rfl, h⟩ | ⟨rfl, h⟩
    · refine ⟨[], ⟨0, 6, 7, 15⟩, [⟨0, 6, 11, 21⟩, ⟨0, 6, 15, 18⟩], "java/lang/IllegalArgumentException", rfl, (fun z hz => absurd hz List.not_mem_nil), rfl, by decide, b_504, t_297, fun q => ?_⟩
      refine g_astore_n (np := 8) (lv' := [some (.ref (xad (fX K) 14 0)), some (.int a2), some (.int a3), some (.ref q)]) B.1 dL_blend_7 (by decide) rfl rfl rfl ?_
      refine g_ldc (v := (-900001)) (np := 10) B.1 b_802 dL_blend_8 rfl ?_
      exact g_iretH B (Nat.le_of_ble_eq_true rfl) (Nat.le_of_ble_eq_true rfl) dL_blend_10 ⟨_, rfl, h⟩
    · refine ⟨[⟨0, 6, 7, 15⟩], ⟨0, 6, 11, 21⟩, [⟨0, 6, 15, 18⟩], "java/lang/UnsupportedOperationException", rfl, (fun z hz => by
          rcases List.mem_cons.mp hz with e | hz
          · subst e
            exact Or.inr ⟨by decide, "java/lang/IllegalArgumentException", b_504, B.1.nc "java/lang/UnsupportedOperationException" (by decide) "java/lang/IllegalArgumentException" (by decide) (by decide)⟩
          exact absurd hz List.not_mem_nil), rfl, by decide, b_506, t_648, fun q => ?_⟩
      refine g_astore_n (np := 12) (lv' := [some (.ref (xad (fX K) 14 0)), some (.int a2), some (.int a3), some (.ref q)]) B.1 dL_blend_11 (by decide) rfl rfl rfl ?_
      refine g_ldc (v := (-900002)) (np := 14) B.1 b_803 dL_blend_12 rfl ?_
      exact g_iretH B (Nat.le_of_ble_eq_true rfl) (Nat.le_of_ble_eq_true rfl) dL_blend_14 ⟨_, rfl, h⟩
    · refine ⟨[⟨0, 6, 7, 15⟩, ⟨0, 6, 11, 21⟩], ⟨0, 6, 15, 18⟩, [], "java/lang/IllegalStateException", rfl, (fun z hz => by
          rcases List.mem_cons.mp hz with e | hz
          · subst e
            exact Or.inr ⟨by decide, "java/lang/IllegalArgumentException", b_504, B.1.nc "java/lang/IllegalStateException" (by decide) "java/lang/IllegalArgumentException" (by decide) (by decide)⟩
          rcases List.mem_cons.mp hz with e | hz
          · subst e
            exact Or.inr ⟨by decide, "java/lang/UnsupportedOperationException", b_506, B.1.nc "java/lang/IllegalStateException" (by decide) "java/lang/UnsupportedOperationException" (by decide) (by decide)⟩
          exact absurd hz List.not_mem_nil), rfl, by decide, b_505, t_632, fun q => ?_⟩
      refine g_astore_n (np := 16) (lv' := [some (.ref (xad (fX K) 14 0)), some (.int a2), some (.int a3), some (.ref q)]) B.1 dL_blend_15 (by decide) rfl rfl rfl ?_
      refine g_ldc (v := (-900003)) (np := 18) B.1 b_804 dL_blend_16 rfl ?_
      exact g_iretH B (Nat.le_of_ble_eq_true rfl) (Nat.le_of_ble_eq_true rfl) dL_blend_18 ⟨_, rfl, h⟩
def wL_addOrder (a2 : Int32) (a3 : Int32) (s0 : Mem) (Q : Int32 → Mem → Prop) (_ : String → Mem → Prop) : Prop := wX12_addOrder a2 a3 s0 (fun (r : Int32) τ => Q r τ) (fun E τ => (E = "java/lang/IllegalArgumentException" ∧ Q (-900001) τ) ∨ (E = "java/lang/IllegalStateException" ∧ Q (-900002) τ))
set_option maxRecDepth 20000 in
theorem oL_addOrder {l : Launch} {x : Ctx} (hl : l.stackTraces = false) (a2 : Int32) (a3 : Int32) (s0 : Mem) (Q : Int32 → Mem → Prop) (E : String → Mem → Prop) (h : wL_addOrder a2 a3 s0 Q E) : MetH l x yL_addOrder cL_addOrder 4 [(0, 6, 7, 15), (0, 6, 11, 18)] 9 191 1 6 [.ref (xad x 14 0), .int a2, .int a3] s0 (RI Q) := by
  refine MetH.of hl (by decide) (Nat.le_of_ble_eq_true rfl) [some (.ref (xad x 14 0)), some (.int a2), some (.int a3), none] rfl (fun K B hx _ => ?_)
  subst hx
  unfold wL_addOrder at h
  refine g_aload_n (np := 1) B.1 dL_addOrder_0 rfl rfl ?_
  refine g_iload_n (np := 2) B.1 dL_addOrder_1 rfl rfl ?_
  refine g_iload_n (np := 3) B.1 dL_addOrder_2 rfl rfl ?_
  refine g_callX (np := 6) B (n := 2) (As := [.int a2, .int a3]) (oX12_addOrder B.1.tr a2 a3 s0 _ _ h) b_820 b_817 b_818 b_819 b_26 (by decide +kernel) rfl (Nat.le_of_ble_eq_true rfl) (Nat.le_of_ble_eq_true rfl) (Nat.le_of_ble_eq_true rfl) dL_addOrder_3 (Nat.le_of_ble_eq_true rfl) (Nat.le_of_ble_eq_true rfl) rfl (fun r s2 hr => ?_) (fun E s2 he => ?_)
  · obtain ⟨i, rfl, h⟩ := hr
    show Go K _ _ s2 6 [some (.ref (xad (fX K) 14 0)), some (.int a2), some (.int a3), none] (.int i :: [])
    exact g_iretH B (Nat.le_of_ble_eq_true rfl) (Nat.le_of_ble_eq_true rfl) dL_addOrder_6 ⟨_, rfl, h⟩
  · rcases he with ⟨rfl, h⟩ | ⟨rfl, h⟩
    · refine ⟨[], ⟨0, 6, 7, 15⟩, [⟨0, 6, 11, 18⟩], "java/lang/IllegalArgumentException", rfl, (fun z hz => absurd hz List.not_mem_nil), rfl, by decide, b_504, t_297, fun q => ?_⟩
      refine g_astore_n (np := 8) (lv' := [some (.ref (xad (fX K) 14 0)), some (.int a2), some (.int a3), some (.ref q)]) B.1 dL_addOrder_7 (by decide) rfl rfl rfl ?_
      refine g_ldc (v := (-900001)) (np := 10) B.1 b_802 dL_addOrder_8 rfl ?_
      exact g_iretH B (Nat.le_of_ble_eq_true rfl) (Nat.le_of_ble_eq_true rfl) dL_addOrder_10 ⟨_, rfl, h⟩
    · refine ⟨[⟨0, 6, 7, 15⟩], ⟨0, 6, 11, 18⟩, [], "java/lang/IllegalStateException", rfl, (fun z hz => by
          rcases List.mem_cons.mp hz with e | hz
          · subst e
            exact Or.inr ⟨by decide, "java/lang/IllegalArgumentException", b_504, B.1.nc "java/lang/IllegalStateException" (by decide) "java/lang/IllegalArgumentException" (by decide) (by decide)⟩
          exact absurd hz List.not_mem_nil), rfl, by decide, b_505, t_632, fun q => ?_⟩
      refine g_astore_n (np := 12) (lv' := [some (.ref (xad (fX K) 14 0)), some (.int a2), some (.int a3), some (.ref q)]) B.1 dL_addOrder_11 (by decide) rfl rfl rfl ?_
      refine g_ldc (v := (-900002)) (np := 14) B.1 b_803 dL_addOrder_12 rfl ?_
      exact g_iretH B (Nat.le_of_ble_eq_true rfl) (Nat.le_of_ble_eq_true rfl) dL_addOrder_14 ⟨_, rfl, h⟩
def wL_cancelOrder (a2 : Int32) (s0 : Mem) (Q : Int32 → Mem → Prop) (_ : String → Mem → Prop) : Prop := wX12_cancelOrder a2 s0 (fun (r : Int32) τ => Q r τ) (fun E τ => (E = "java/util/NoSuchElementException" ∧ Q (-900001) τ))
set_option maxRecDepth 20000 in
theorem oL_cancelOrder {l : Launch} {x : Ctx} (hl : l.stackTraces = false) (a2 : Int32) (s0 : Mem) (Q : Int32 → Mem → Prop) (E : String → Mem → Prop) (h : wL_cancelOrder a2 s0 Q E) : MetH l x yL_cancelOrder cL_cancelOrder 3 [(0, 5, 6, 35)] 9 190 1 6 [.ref (xad x 14 0), .int a2] s0 (RI Q) := by
  refine MetH.of hl (by decide) (Nat.le_of_ble_eq_true rfl) [some (.ref (xad x 14 0)), some (.int a2), none] rfl (fun K B hx _ => ?_)
  subst hx
  unfold wL_cancelOrder at h
  refine g_aload_n (np := 1) B.1 dL_cancelOrder_0 rfl rfl ?_
  refine g_iload_n (np := 2) B.1 dL_cancelOrder_1 rfl rfl ?_
  refine g_callX (np := 5) B (n := 1) (As := [.int a2]) (oX12_cancelOrder B.1.tr a2 s0 _ _ h) b_1276 b_1273 b_1274 b_1275 b_26 (by decide +kernel) rfl (Nat.le_of_ble_eq_true rfl) (Nat.le_of_ble_eq_true rfl) (Nat.le_of_ble_eq_true rfl) dL_cancelOrder_2 (Nat.le_of_ble_eq_true rfl) (Nat.le_of_ble_eq_true rfl) rfl (fun r s2 hr => ?_) (fun E s2 he => ?_)
  · obtain ⟨i, rfl, h⟩ := hr
    show Go K _ _ s2 5 [some (.ref (xad (fX K) 14 0)), some (.int a2), none] (.int i :: [])
    exact g_iretH B (Nat.le_of_ble_eq_true rfl) (Nat.le_of_ble_eq_true rfl) dL_cancelOrder_5 ⟨_, rfl, h⟩
  · obtain ⟨rfl, h⟩ := he
    refine ⟨[], ⟨0, 5, 6, 35⟩, [], "java/util/NoSuchElementException", rfl, (fun z hz => absurd hz List.not_mem_nil), rfl, by decide, b_826, t_664, fun q => ?_⟩
    refine g_astore_n (np := 7) (lv' := [some (.ref (xad (fX K) 14 0)), some (.int a2), some (.ref q)]) B.1 dL_cancelOrder_6 (by decide) rfl rfl rfl ?_
    refine g_ldc (v := (-900001)) (np := 9) B.1 b_802 dL_cancelOrder_7 rfl ?_
    exact g_iretH B (Nat.le_of_ble_eq_true rfl) (Nat.le_of_ble_eq_true rfl) dL_cancelOrder_9 ⟨_, rfl, h⟩
def wL_setMachines (a2 : Int32) (s0 : Mem) (Q : Int32 → Mem → Prop) (_ : String → Mem → Prop) : Prop := wX12_setMachines a2 s0 (fun (r : Int32) τ => Q r τ) (fun E τ => (E = "java/lang/IllegalArgumentException" ∧ Q (-900001) τ))
set_option maxRecDepth 20000 in
theorem oL_setMachines {l : Launch} {x : Ctx} (hl : l.stackTraces = false) (a2 : Int32) (s0 : Mem) (Q : Int32 → Mem → Prop) (E : String → Mem → Prop) (h : wL_setMachines a2 s0 Q E) : MetH l x yL_setMachines cL_setMachines 3 [(0, 5, 6, 15)] 9 190 1 6 [.ref (xad x 14 0), .int a2] s0 (RI Q) := by
  refine MetH.of hl (by decide) (Nat.le_of_ble_eq_true rfl) [some (.ref (xad x 14 0)), some (.int a2), none] rfl (fun K B hx _ => ?_)
  subst hx
  unfold wL_setMachines at h
  refine g_aload_n (np := 1) B.1 dL_setMachines_0 rfl rfl ?_
  refine g_iload_n (np := 2) B.1 dL_setMachines_1 rfl rfl ?_
  refine g_callX (np := 5) B (n := 1) (As := [.int a2]) (oX12_setMachines B.1.tr a2 s0 _ _ h) b_1239 b_1236 b_1237 b_1238 b_26 (by decide +kernel) rfl (Nat.le_of_ble_eq_true rfl) (Nat.le_of_ble_eq_true rfl) (Nat.le_of_ble_eq_true rfl) dL_setMachines_2 (Nat.le_of_ble_eq_true rfl) (Nat.le_of_ble_eq_true rfl) rfl (fun r s2 hr => ?_) (fun E s2 he => ?_)
  · obtain ⟨i, rfl, h⟩ := hr
    show Go K _ _ s2 5 [some (.ref (xad (fX K) 14 0)), some (.int a2), none] (.int i :: [])
    exact g_iretH B (Nat.le_of_ble_eq_true rfl) (Nat.le_of_ble_eq_true rfl) dL_setMachines_5 ⟨_, rfl, h⟩
  · obtain ⟨rfl, h⟩ := he
    refine ⟨[], ⟨0, 5, 6, 15⟩, [], "java/lang/IllegalArgumentException", rfl, (fun z hz => absurd hz List.not_mem_nil), rfl, by decide, b_504, t_297, fun q => ?_⟩
    refine g_astore_n (np := 7) (lv' := [some (.ref (xad (fX K) 14 0)), some (.int a2), some (.ref q)]) B.1 dL_setMachines_6 (by decide) rfl rfl rfl ?_
    refine g_ldc (v := (-900001)) (np := 9) B.1 b_802 dL_setMachines_7 rfl ?_
    exact g_iretH B (Nat.le_of_ble_eq_true rfl) (Nat.le_of_ble_eq_true rfl) dL_setMachines_9 ⟨_, rfl, h⟩
def wL_spin (a2 : Int32) (s0 : Mem) (Q : Int32 → Mem → Prop) (_ : String → Mem → Prop) : Prop := wX12_spin a2 s0 (fun (r : Int32) τ => Q r τ) (fun E τ => (E = "java/util/NoSuchElementException" ∧ Q (-900001) τ) ∨ (E = "java/lang/UnsupportedOperationException" ∧ Q (-900002) τ) ∨ (E = "java/lang/IllegalStateException" ∧ Q (-900003) τ))
set_option maxRecDepth 20000 in
theorem oL_spin {l : Launch} {x : Ctx} (hl : l.stackTraces = false) (a2 : Int32) (s0 : Mem) (Q : Int32 → Mem → Prop) (E : String → Mem → Prop) (h : wL_spin a2 s0 Q E) : MetH l x yL_spin cL_spin 3 [(0, 5, 6, 35), (0, 5, 10, 21), (0, 5, 14, 18)] 9 190 1 6 [.ref (xad x 14 0), .int a2] s0 (RI Q) := by
  refine MetH.of hl (by decide) (Nat.le_of_ble_eq_true rfl) [some (.ref (xad x 14 0)), some (.int a2), none] rfl (fun K B hx _ => ?_)
  subst hx
  unfold wL_spin at h
  refine g_aload_n (np := 1) B.1 dL_spin_0 rfl rfl ?_
  refine g_iload_n (np := 2) B.1 dL_spin_1 rfl rfl ?_
  refine g_callX (np := 5) B (n := 1) (As := [.int a2]) (oX12_spin B.1.tr a2 s0 _ _ h) b_830 b_827 b_828 b_829 b_26 (by decide +kernel) rfl (Nat.le_of_ble_eq_true rfl) (Nat.le_of_ble_eq_true rfl) (Nat.le_of_ble_eq_true rfl) dL_spin_2 (Nat.le_of_ble_eq_true rfl) (Nat.le_of_ble_eq_true rfl) rfl (fun r s2 hr => ?_) (fun E s2 he => ?_)
  · obtain ⟨i, rfl, h⟩ := hr
    show Go K _ _ s2 5 [some (.ref (xad (fX K) 14 0)), some (.int a2), none] (.int i :: [])
    exact g_iretH B (Nat.le_of_ble_eq_true rfl) (Nat.le_of_ble_eq_true rfl) dL_spin_5 ⟨_, rfl, h⟩
  · rcases he with ⟨rfl, h⟩ | ⟨rfl, h⟩ | ⟨rfl, h⟩
    · refine ⟨[], ⟨0, 5, 6, 35⟩, [⟨0, 5, 10, 21⟩, ⟨0, 5, 14, 18⟩], "java/util/NoSuchElementException", rfl, (fun z hz => absurd hz List.not_mem_nil), rfl, by decide, b_826, t_664, fun q => ?_⟩
      refine g_astore_n (np := 7) (lv' := [some (.ref (xad (fX K) 14 0)), some (.int a2), some (.ref q)]) B.1 dL_spin_6 (by decide) rfl rfl rfl ?_
      refine g_ldc (v := (-900001)) (np := 9) B.1 b_802 dL_spin_7 rfl ?_
      exact g_iretH B (Nat.le_of_ble_eq_true rfl) (Nat.le_of_ble_eq_true rfl) dL_spin_9 ⟨_, rfl, h⟩
    · refine ⟨[⟨0, 5, 6, 35⟩], ⟨0, 5, 10, 21⟩, [⟨0, 5, 14, 18⟩], "java/lang/UnsupportedOperationException", rfl, (fun z hz => by
          rcases List.mem_cons.mp hz with e | hz
          · subst e
            exact Or.inr ⟨by decide, "java/util/NoSuchElementException", b_826, B.1.nc "java/lang/UnsupportedOperationException" (by decide) "java/util/NoSuchElementException" (by decide) (by decide)⟩
          exact absurd hz List.not_mem_nil), rfl, by decide, b_506, t_648, fun q => ?_⟩
      refine g_astore_n (np := 11) (lv' := [some (.ref (xad (fX K) 14 0)), some (.int a2), some (.ref q)]) B.1 dL_spin_10 (by decide) rfl rfl rfl ?_
      refine g_ldc (v := (-900002)) (np := 13) B.1 b_803 dL_spin_11 rfl ?_
      exact g_iretH B (Nat.le_of_ble_eq_true rfl) (Nat.le_of_ble_eq_true rfl) dL_spin_13 ⟨_, rfl, h⟩
    · refine ⟨[⟨0, 5, 6, 35⟩, ⟨0, 5, 10, 21⟩], ⟨0, 5, 14, 18⟩, [], "java/lang/IllegalStateException", rfl, (fun z hz => by
          rcases List.mem_cons.mp hz with e | hz
          · subst e
            exact Or.inr ⟨by decide, "java/util/NoSuchElementException", b_826, B.1.nc "java/lang/IllegalStateException" (by decide) "java/util/NoSuchElementException" (by decide) (by decide)⟩
          rcases List.mem_cons.mp hz with e | hz
          · subst e
            exact Or.inr ⟨by decide, "java/lang/UnsupportedOperationException", b_506, B.1.nc "java/lang/IllegalStateException" (by decide) "java/lang/UnsupportedOperationException" (by decide) (by decide)⟩
          exact absurd hz List.not_mem_nil), rfl, by decide, b_505, t_632, fun q => ?_⟩
      refine g_astore_n (np := 15) (lv' := [some (.ref (xad (fX K) 14 0)), some (.int a2), some (.ref q)]) B.1 dL_spin_14 (by decide) rfl rfl rfl ?_
      refine g_ldc (v := (-900003)) (np := 17) B.1 b_804 dL_spin_15 rfl ?_
      exact g_iretH B (Nat.le_of_ble_eq_true rfl) (Nat.le_of_ble_eq_true rfl) dL_spin_17 ⟨_, rfl, h⟩
def wL_splice (a2 : Int32) (s0 : Mem) (Q : Int32 → Mem → Prop) (_ : String → Mem → Prop) : Prop := wX12_splice a2 s0 (fun (r : Int32) τ => Q r τ) (fun E τ => (E = "java/lang/IndexOutOfBoundsException" ∧ Q (-900001) τ))
set_option maxRecDepth 20000 in
theorem oL_splice {l : Launch} {x : Ctx} (hl : l.stackTraces = false) (a2 : Int32) (s0 : Mem) (Q : Int32 → Mem → Prop) (E : String → Mem → Prop) (h : wL_splice a2 s0 Q E) : MetH l x yL_splice cL_splice 3 [(0, 5, 6, 46)] 9 190 1 6 [.ref (xad x 14 0), .int a2] s0 (RI Q) := by
  refine MetH.of hl (by decide) (Nat.le_of_ble_eq_true rfl) [some (.ref (xad x 14 0)), some (.int a2), none] rfl (fun K B hx _ => ?_)
  subst hx
  unfold wL_splice at h
  refine g_aload_n (np := 1) B.1 dL_splice_0 rfl rfl ?_
  refine g_iload_n (np := 2) B.1 dL_splice_1 rfl rfl ?_
  refine g_callX (np := 5) B (n := 1) (As := [.int a2]) (oX12_splice B.1.tr a2 s0 _ _ h) b_1285 b_1282 b_1283 b_1284 b_26 (by decide +kernel) rfl (Nat.le_of_ble_eq_true rfl) (Nat.le_of_ble_eq_true rfl) (Nat.le_of_ble_eq_true rfl) dL_splice_2 (Nat.le_of_ble_eq_true rfl) (Nat.le_of_ble_eq_true rfl) rfl (fun r s2 hr => ?_) (fun E s2 he => ?_)
  · obtain ⟨i, rfl, h⟩ := hr
    show Go K _ _ s2 5 [some (.ref (xad (fX K) 14 0)), some (.int a2), none] (.int i :: [])
    exact g_iretH B (Nat.le_of_ble_eq_true rfl) (Nat.le_of_ble_eq_true rfl) dL_splice_5 ⟨_, rfl, h⟩
  · obtain ⟨rfl, h⟩ := he
    refine ⟨[], ⟨0, 5, 6, 46⟩, [], "java/lang/IndexOutOfBoundsException", rfl, (fun z hz => absurd hz List.not_mem_nil), rfl, by decide, b_836, t_680, fun q => ?_⟩
    refine g_astore_n (np := 7) (lv' := [some (.ref (xad (fX K) 14 0)), some (.int a2), some (.ref q)]) B.1 dL_splice_6 (by decide) rfl rfl rfl ?_
    refine g_ldc (v := (-900001)) (np := 9) B.1 b_802 dL_splice_7 rfl ?_
    exact g_iretH B (Nat.le_of_ble_eq_true rfl) (Nat.le_of_ble_eq_true rfl) dL_splice_9 ⟨_, rfl, h⟩
def wL_spliceAll  (s0 : Mem) (Q : Int32 → Mem → Prop) (_ : String → Mem → Prop) : Prop := wX12_spliceAll  s0 (fun (r : Int32) τ => Q r τ) (fun E τ => (E = "java/lang/IllegalStateException" ∧ Q (-900001) τ))
set_option maxRecDepth 20000 in
theorem oL_spliceAll {l : Launch} {x : Ctx} (hl : l.stackTraces = false)  (s0 : Mem) (Q : Int32 → Mem → Prop) (E : String → Mem → Prop) (h : wL_spliceAll  s0 Q E) : MetH l x yL_spliceAll cL_spliceAll 2 [(0, 4, 5, 18)] 9 189 1 6 [.ref (xad x 14 0)] s0 (RI Q) := by
  refine MetH.of hl (by decide) (Nat.le_of_ble_eq_true rfl) [some (.ref (xad x 14 0)), none] rfl (fun K B hx _ => ?_)
  subst hx
  unfold wL_spliceAll at h
  refine g_aload_n (np := 1) B.1 dL_spliceAll_0 rfl rfl ?_
  refine g_callX (np := 4) B (n := 0) (As := []) (oX12_spliceAll B.1.tr  s0 _ _ h) b_1294 b_1291 b_1292 b_1293 b_26 (by decide +kernel) rfl (Nat.le_of_ble_eq_true rfl) (Nat.le_of_ble_eq_true rfl) (Nat.le_of_ble_eq_true rfl) dL_spliceAll_1 (Nat.le_of_ble_eq_true rfl) (Nat.le_of_ble_eq_true rfl) rfl (fun r s2 hr => ?_) (fun E s2 he => ?_)
  · obtain ⟨i, rfl, h⟩ := hr
    show Go K _ _ s2 4 [some (.ref (xad (fX K) 14 0)), none] (.int i :: [])
    exact g_iretH B (Nat.le_of_ble_eq_true rfl) (Nat.le_of_ble_eq_true rfl) dL_spliceAll_4 ⟨_, rfl, h⟩
  · obtain ⟨rfl, h⟩ := he
    refine ⟨[], ⟨0, 4, 5, 18⟩, [], "java/lang/IllegalStateException", rfl, (fun z hz => absurd hz List.not_mem_nil), rfl, by decide, b_505, t_632, fun q => ?_⟩
    refine g_astore_n (np := 6) (lv' := [some (.ref (xad (fX K) 14 0)), some (.ref q)]) B.1 dL_spliceAll_5 (by decide) rfl rfl rfl ?_
    refine g_ldc (v := (-900001)) (np := 8) B.1 b_802 dL_spliceAll_6 rfl ?_
    exact g_iretH B (Nat.le_of_ble_eq_true rfl) (Nat.le_of_ble_eq_true rfl) dL_spliceAll_8 ⟨_, rfl, h⟩
def wL_sell (a2 : Int32) (s0 : Mem) (Q : Int32 → Mem → Prop) (_ : String → Mem → Prop) : Prop := wX12_sell a2 s0 (fun (r : Int32) τ => Q r τ) (fun E τ => (E = "java/lang/IndexOutOfBoundsException" ∧ Q (-900001) τ))
set_option maxRecDepth 20000 in
theorem oL_sell {l : Launch} {x : Ctx} (hl : l.stackTraces = false) (a2 : Int32) (s0 : Mem) (Q : Int32 → Mem → Prop) (E : String → Mem → Prop) (h : wL_sell a2 s0 Q E) : MetH l x yL_sell cL_sell 3 [(0, 5, 6, 46)] 9 190 1 6 [.ref (xad x 14 0), .int a2] s0 (RI Q) := by
  refine MetH.of hl (by decide) (Nat.le_of_ble_eq_true rfl) [some (.ref (xad x 14 0)), some (.int a2), none] rfl (fun K B hx _ => ?_)
  subst hx
  unfold wL_sell at h
  refine g_aload_n (np := 1) B.1 dL_sell_0 rfl rfl ?_
  refine g_iload_n (np := 2) B.1 dL_sell_1 rfl rfl ?_
  refine g_callX (np := 5) B (n := 1) (As := [.int a2]) (oX12_sell B.1.tr a2 s0 _ _ h) b_842 b_839 b_840 b_841 b_26 (by decide +kernel) rfl (Nat.le_of_ble_eq_true rfl) (Nat.le_of_ble_eq_true rfl) (Nat.le_of_ble_eq_true rfl) dL_sell_2 (Nat.le_of_ble_eq_true rfl) (Nat.le_of_ble_eq_true rfl) rfl (fun r s2 hr => ?_) (fun E s2 he => ?_)
  · obtain ⟨i, rfl, h⟩ := hr
    show Go K _ _ s2 5 [some (.ref (xad (fX K) 14 0)), some (.int a2), none] (.int i :: [])
    exact g_iretH B (Nat.le_of_ble_eq_true rfl) (Nat.le_of_ble_eq_true rfl) dL_sell_5 ⟨_, rfl, h⟩
  · obtain ⟨rfl, h⟩ := he
    refine ⟨[], ⟨0, 5, 6, 46⟩, [], "java/lang/IndexOutOfBoundsException", rfl, (fun z hz => absurd hz List.not_mem_nil), rfl, by decide, b_836, t_680, fun q => ?_⟩
    refine g_astore_n (np := 7) (lv' := [some (.ref (xad (fX K) 14 0)), some (.int a2), some (.ref q)]) B.1 dL_sell_6 (by decide) rfl rfl rfl ?_
    refine g_ldc (v := (-900001)) (np := 9) B.1 b_802 dL_sell_7 rfl ?_
    exact g_iretH B (Nat.le_of_ble_eq_true rfl) (Nat.le_of_ble_eq_true rfl) dL_sell_9 ⟨_, rfl, h⟩
def wL_blendValue (a2 : Int32) (a3 : Int32) (s0 : Mem) (Q : Int32 → Mem → Prop) (_ : String → Mem → Prop) : Prop := wX12_blendValue a2 a3 s0 (fun (r : Int32) τ => Q r τ) (fun E τ => (E = "java/lang/IllegalArgumentException" ∧ Q (-900001) τ) ∨ (E = "java/util/NoSuchElementException" ∧ Q (-900002) τ))
set_option maxRecDepth 20000 in
theorem oL_blendValue {l : Launch} {x : Ctx} (hl : l.stackTraces = false) (a2 : Int32) (a3 : Int32) (s0 : Mem) (Q : Int32 → Mem → Prop) (E : String → Mem → Prop) (h : wL_blendValue a2 a3 s0 Q E) : MetH l x yL_blendValue cL_blendValue 4 [(0, 6, 7, 15), (0, 6, 11, 35)] 8 125 2 12 [.ref (xad x 14 0), .int a2, .int a3] s0 (RI Q) := by
  refine MetH.of hl (by decide) (Nat.le_of_ble_eq_true rfl) [some (.ref (xad x 14 0)), some (.int a2), some (.int a3), none] rfl (fun K B hx _ => ?_)
  subst hx
  unfold wL_blendValue at h
  refine g_aload_n (np := 1) B.1 dL_blendValue_0 rfl rfl ?_
  refine g_iload_n (np := 2) B.1 dL_blendValue_1 rfl rfl ?_
  refine g_iload_n (np := 3) B.1 dL_blendValue_2 rfl rfl ?_
  refine g_callX (np := 6) B (n := 2) (As := [.int a2, .int a3]) (oX12_blendValue B.1.tr a2 a3 s0 _ _ h) b_1564 b_1561 b_1562 b_1563 b_26 (by decide +kernel) rfl (Nat.le_of_ble_eq_true rfl) (Nat.le_of_ble_eq_true rfl) (Nat.le_of_ble_eq_true rfl) dL_blendValue_3 (Nat.le_of_ble_eq_true rfl) (Nat.le_of_ble_eq_true rfl) rfl (fun r s2 hr => ?_) (fun E s2 he => ?_)
  · obtain ⟨i, rfl, h⟩ := hr
    show Go K _ _ s2 6 [some (.ref (xad (fX K) 14 0)), some (.int a2), some (.int a3), none] (.int i :: [])
    exact g_iretH B (Nat.le_of_ble_eq_true rfl) (Nat.le_of_ble_eq_true rfl) dL_blendValue_6 ⟨_, rfl, h⟩
  · rcases he with ⟨rfl, h⟩ | ⟨rfl, h⟩
    · refine ⟨[], ⟨0, 6, 7, 15⟩, [⟨0, 6, 11, 35⟩], "java/lang/IllegalArgumentException", rfl, (fun z hz => absurd hz List.not_mem_nil), rfl, by decide, b_504, t_297, fun q => ?_⟩
      refine g_astore_n (np := 8) (lv' := [some (.ref (xad (fX K) 14 0)), some (.int a2), some (.int a3), some (.ref q)]) B.1 dL_blendValue_7 (by decide) rfl rfl rfl ?_
      refine g_ldc (v := (-900001)) (np := 10) B.1 b_802 dL_blendValue_8 rfl ?_
      exact g_iretH B (Nat.le_of_ble_eq_true rfl) (Nat.le_of_ble_eq_true rfl) dL_blendValue_10 ⟨_, rfl, h⟩
    · refine ⟨[⟨0, 6, 7, 15⟩], ⟨0, 6, 11, 35⟩, [], "java/util/NoSuchElementException", rfl, (fun z hz => by
          rcases List.mem_cons.mp hz with e | hz
          · subst e
            exact Or.inr ⟨by decide, "java/lang/IllegalArgumentException", b_504, B.1.nc "java/util/NoSuchElementException" (by decide) "java/lang/IllegalArgumentException" (by decide) (by decide)⟩
          exact absurd hz List.not_mem_nil), rfl, by decide, b_826, t_664, fun q => ?_⟩
      refine g_astore_n (np := 12) (lv' := [some (.ref (xad (fX K) 14 0)), some (.int a2), some (.int a3), some (.ref q)]) B.1 dL_blendValue_11 (by decide) rfl rfl rfl ?_
      refine g_ldc (v := (-900002)) (np := 14) B.1 b_803 dL_blendValue_12 rfl ?_
      exact g_iretH B (Nat.le_of_ble_eq_true rfl) (Nat.le_of_ble_eq_true rfl) dL_blendValue_14 ⟨_, rfl, h⟩
def wL_blendValueBySearch (a2 : Int32) (a3 : Int32) (s0 : Mem) (Q : Int32 → Mem → Prop) (_ : String → Mem → Prop) : Prop := wX12_blendValueBySearch a2 a3 s0 (fun (r : Int32) τ => Q r τ) (fun E τ => (E = "java/lang/IllegalArgumentException" ∧ Q (-900001) τ) ∨ (E = "java/util/NoSuchElementException" ∧ Q (-900002) τ))
set_option maxRecDepth 20000 in
theorem oL_blendValueBySearch {l : Launch} {x : Ctx} (hl : l.stackTraces = false) (a2 : Int32) (a3 : Int32) (s0 : Mem) (Q : Int32 → Mem → Prop) (E : String → Mem → Prop) (h : wL_blendValueBySearch a2 a3 s0 Q E) : MetH l x yL_blendValueBySearch cL_blendValueBySearch 4 [(0, 6, 7, 15), (0, 6, 11, 35)] 16 404 2 12 [.ref (xad x 14 0), .int a2, .int a3] s0 (RI Q) := by
  refine MetH.of hl (by decide) (Nat.le_of_ble_eq_true rfl) [some (.ref (xad x 14 0)), some (.int a2), some (.int a3), none] rfl (fun K B hx _ => ?_)
  subst hx
  unfold wL_blendValueBySearch at h
  refine g_aload_n (np := 1) B.1 dL_blendValueBySearch_0 rfl rfl ?_
  refine g_iload_n (np := 2) B.1 dL_blendValueBySearch_1 rfl rfl ?_
  refine g_iload_n (np := 3) B.1 dL_blendValueBySearch_2 rfl rfl ?_
  refine g_callX (np := 6) B (n := 2) (As := [.int a2, .int a3]) (oX12_blendValueBySearch B.1.tr a2 a3 s0 _ _ h) b_1594 b_1591 b_1592 b_1593 b_26 (by decide +kernel) rfl (Nat.le_of_ble_eq_true rfl) (Nat.le_of_ble_eq_true rfl) (Nat.le_of_ble_eq_true rfl) dL_blendValueBySearch_3 (Nat.le_of_ble_eq_true rfl) (Nat.le_of_ble_eq_true rfl) rfl (fun r s2 hr => ?_) (fun E s2 he => ?_)
  · obtain ⟨i, rfl, h⟩ := hr
    show Go K _ _ s2 6 [some (.ref (xad (fX K) 14 0)), some (.int a2), some (.int a3), none] (.int i :: [])
    exact g_iretH B (Nat.le_of_ble_eq_true rfl) (Nat.le_of_ble_eq_true rfl) dL_blendValueBySearch_6 ⟨_, rfl, h⟩
  · rcases he with ⟨rfl, h⟩ | ⟨rfl, h⟩
    · refine ⟨[], ⟨0, 6, 7, 15⟩, [⟨0, 6, 11, 35⟩], "java/lang/IllegalArgumentException", rfl, (fun z hz => absurd hz List.not_mem_nil), rfl, by decide, b_504, t_297, fun q => ?_⟩
      refine g_astore_n (np := 8) (lv' := [some (.ref (xad (fX K) 14 0)), some (.int a2), some (.int a3), some (.ref q)]) B.1 dL_blendValueBySearch_7 (by decide) rfl rfl rfl ?_
      refine g_ldc (v := (-900001)) (np := 10) B.1 b_802 dL_blendValueBySearch_8 rfl ?_
      exact g_iretH B (Nat.le_of_ble_eq_true rfl) (Nat.le_of_ble_eq_true rfl) dL_blendValueBySearch_10 ⟨_, rfl, h⟩
    · refine ⟨[⟨0, 6, 7, 15⟩], ⟨0, 6, 11, 35⟩, [], "java/util/NoSuchElementException", rfl, (fun z hz => by
          rcases List.mem_cons.mp hz with e | hz
          · subst e
            exact Or.inr ⟨by decide, "java/lang/IllegalArgumentException", b_504, B.1.nc "java/util/NoSuchElementException" (by decide) "java/lang/IllegalArgumentException" (by decide) (by decide)⟩
          exact absurd hz List.not_mem_nil), rfl, by decide, b_826, t_664, fun q => ?_⟩
      refine g_astore_n (np := 12) (lv' := [some (.ref (xad (fX K) 14 0)), some (.int a2), some (.int a3), some (.ref q)]) B.1 dL_blendValueBySearch_11 (by decide) rfl rfl rfl ?_
      refine g_ldc (v := (-900002)) (np := 14) B.1 b_803 dL_blendValueBySearch_12 rfl ?_
      exact g_iretH B (Nat.le_of_ble_eq_true rfl) (Nat.le_of_ble_eq_true rfl) dL_blendValueBySearch_14 ⟨_, rfl, h⟩
def wL_orderByTime (a2 : Int32) (s0 : Mem) (Q : Int32 → Mem → Prop) (_ : String → Mem → Prop) : Prop := wX12_orderByTime a2 s0 (fun (r : Int32) τ => Q r τ) (fun E τ => (E = "java/util/NoSuchElementException" ∧ Q (-900001) τ))
set_option maxRecDepth 20000 in
theorem oL_orderByTime {l : Launch} {x : Ctx} (hl : l.stackTraces = false) (a2 : Int32) (s0 : Mem) (Q : Int32 → Mem → Prop) (E : String → Mem → Prop) (h : wL_orderByTime a2 s0 Q E) : MetH l x yL_orderByTime cL_orderByTime 3 [(0, 5, 6, 35)] 8 125 1 6 [.ref (xad x 14 0), .int a2] s0 (RI Q) := by
  refine MetH.of hl (by decide) (Nat.le_of_ble_eq_true rfl) [some (.ref (xad x 14 0)), some (.int a2), none] rfl (fun K B hx _ => ?_)
  subst hx
  unfold wL_orderByTime at h
  refine g_aload_n (np := 1) B.1 dL_orderByTime_0 rfl rfl ?_
  refine g_iload_n (np := 2) B.1 dL_orderByTime_1 rfl rfl ?_
  refine g_callX (np := 5) B (n := 1) (As := [.int a2]) (oX12_orderByTime B.1.tr a2 s0 _ _ h) b_851 b_848 b_849 b_850 b_26 (by decide +kernel) rfl (Nat.le_of_ble_eq_true rfl) (Nat.le_of_ble_eq_true rfl) (Nat.le_of_ble_eq_true rfl) dL_orderByTime_2 (Nat.le_of_ble_eq_true rfl) (Nat.le_of_ble_eq_true rfl) rfl (fun r s2 hr => ?_) (fun E s2 he => ?_)
  · obtain ⟨i, rfl, h⟩ := hr
    show Go K _ _ s2 5 [some (.ref (xad (fX K) 14 0)), some (.int a2), none] (.int i :: [])
    exact g_iretH B (Nat.le_of_ble_eq_true rfl) (Nat.le_of_ble_eq_true rfl) dL_orderByTime_5 ⟨_, rfl, h⟩
  · obtain ⟨rfl, h⟩ := he
    refine ⟨[], ⟨0, 5, 6, 35⟩, [], "java/util/NoSuchElementException", rfl, (fun z hz => absurd hz List.not_mem_nil), rfl, by decide, b_826, t_664, fun q => ?_⟩
    refine g_astore_n (np := 7) (lv' := [some (.ref (xad (fX K) 14 0)), some (.int a2), some (.ref q)]) B.1 dL_orderByTime_6 (by decide) rfl rfl rfl ?_
    refine g_ldc (v := (-900001)) (np := 9) B.1 b_802 dL_orderByTime_7 rfl ?_
    exact g_iretH B (Nat.le_of_ble_eq_true rfl) (Nat.le_of_ble_eq_true rfl) dL_orderByTime_9 ⟨_, rfl, h⟩
def wL_longestPiece  (s0 : Mem) (Q : Int32 → Mem → Prop) (_ : String → Mem → Prop) : Prop := wX12_longestPiece  s0 (fun (r : Int32) τ => Q r τ) (fun E τ => (E = "java/util/NoSuchElementException" ∧ Q (-900001) τ))
set_option maxRecDepth 20000 in
theorem oL_longestPiece {l : Launch} {x : Ctx} (hl : l.stackTraces = false)  (s0 : Mem) (Q : Int32 → Mem → Prop) (E : String → Mem → Prop) (h : wL_longestPiece  s0 Q E) : MetH l x yL_longestPiece cL_longestPiece 2 [(0, 4, 5, 35)] 7 102 1 6 [.ref (xad x 14 0)] s0 (RI Q) := by
  refine MetH.of hl (by decide) (Nat.le_of_ble_eq_true rfl) [some (.ref (xad x 14 0)), none] rfl (fun K B hx _ => ?_)
  subst hx
  unfold wL_longestPiece at h
  refine g_aload_n (np := 1) B.1 dL_longestPiece_0 rfl rfl ?_
  refine g_callX (np := 4) B (n := 0) (As := []) (oX12_longestPiece B.1.tr  s0 _ _ h) b_877 b_874 b_875 b_876 b_26 (by decide +kernel) rfl (Nat.le_of_ble_eq_true rfl) (Nat.le_of_ble_eq_true rfl) (Nat.le_of_ble_eq_true rfl) dL_longestPiece_1 (Nat.le_of_ble_eq_true rfl) (Nat.le_of_ble_eq_true rfl) rfl (fun r s2 hr => ?_) (fun E s2 he => ?_)
  · obtain ⟨i, rfl, h⟩ := hr
    show Go K _ _ s2 4 [some (.ref (xad (fX K) 14 0)), none] (.int i :: [])
    exact g_iretH B (Nat.le_of_ble_eq_true rfl) (Nat.le_of_ble_eq_true rfl) dL_longestPiece_4 ⟨_, rfl, h⟩
  · obtain ⟨rfl, h⟩ := he
    refine ⟨[], ⟨0, 4, 5, 35⟩, [], "java/util/NoSuchElementException", rfl, (fun z hz => absurd hz List.not_mem_nil), rfl, by decide, b_826, t_664, fun q => ?_⟩
    refine g_astore_n (np := 6) (lv' := [some (.ref (xad (fX K) 14 0)), some (.ref q)]) B.1 dL_longestPiece_5 (by decide) rfl rfl rfl ?_
    refine g_ldc (v := (-900001)) (np := 8) B.1 b_802 dL_longestPiece_6 rfl ?_
    exact g_iretH B (Nat.le_of_ble_eq_true rfl) (Nat.le_of_ble_eq_true rfl) dL_longestPiece_8 ⟨_, rfl, h⟩
def wL_pieceByLength (a2 : Int32) (s0 : Mem) (Q : Int32 → Mem → Prop) (_ : String → Mem → Prop) : Prop := wX12_pieceByLength a2 s0 (fun (r : Int32) τ => Q r τ) (fun E τ => (E = "java/util/NoSuchElementException" ∧ Q (-900001) τ))
set_option maxRecDepth 20000 in
theorem oL_pieceByLength {l : Launch} {x : Ctx} (hl : l.stackTraces = false) (a2 : Int32) (s0 : Mem) (Q : Int32 → Mem → Prop) (E : String → Mem → Prop) (h : wL_pieceByLength a2 s0 Q E) : MetH l x yL_pieceByLength cL_pieceByLength 3 [(0, 5, 6, 35)] 8 125 1 6 [.ref (xad x 14 0), .int a2] s0 (RI Q) := by
  refine MetH.of hl (by decide) (Nat.le_of_ble_eq_true rfl) [some (.ref (xad x 14 0)), some (.int a2), none] rfl (fun K B hx _ => ?_)
  subst hx
  unfold wL_pieceByLength at h
  refine g_aload_n (np := 1) B.1 dL_pieceByLength_0 rfl rfl ?_
  refine g_iload_n (np := 2) B.1 dL_pieceByLength_1 rfl rfl ?_
  refine g_callX (np := 5) B (n := 1) (As := [.int a2]) (oX12_pieceByLength B.1.tr a2 s0 _ _ h) b_889 b_886 b_887 b_888 b_26 (by decide +kernel) rfl (Nat.le_of_ble_eq_true rfl) (Nat.le_of_ble_eq_true rfl) (Nat.le_of_ble_eq_true rfl) dL_pieceByLength_2 (Nat.le_of_ble_eq_true rfl) (Nat.le_of_ble_eq_true rfl) rfl (fun r s2 hr => ?_) (fun E s2 he => ?_)
  · obtain ⟨i, rfl, h⟩ := hr
    show Go K _ _ s2 5 [some (.ref (xad (fX K) 14 0)), some (.int a2), none] (.int i :: [])
    exact g_iretH B (Nat.le_of_ble_eq_true rfl) (Nat.le_of_ble_eq_true rfl) dL_pieceByLength_5 ⟨_, rfl, h⟩
  · obtain ⟨rfl, h⟩ := he
    refine ⟨[], ⟨0, 5, 6, 35⟩, [], "java/util/NoSuchElementException", rfl, (fun z hz => absurd hz List.not_mem_nil), rfl, by decide, b_826, t_664, fun q => ?_⟩
    refine g_astore_n (np := 7) (lv' := [some (.ref (xad (fX K) 14 0)), some (.int a2), some (.ref q)]) B.1 dL_pieceByLength_6 (by decide) rfl rfl rfl ?_
    refine g_ldc (v := (-900001)) (np := 9) B.1 b_802 dL_pieceByLength_7 rfl ?_
    exact g_iretH B (Nat.le_of_ble_eq_true rfl) (Nat.le_of_ble_eq_true rfl) dL_pieceByLength_9 ⟨_, rfl, h⟩
def wL_runScript  (s0 : Mem) (Q : Int32 → Mem → Prop) (_ : String → Mem → Prop) : Prop := wX12_runScript  s0 (fun (r : Int32) τ => Q r τ) (fun E τ => (E = "java/lang/IllegalArgumentException" ∧ Q (-900001) τ) ∨ (E = "java/lang/IllegalStateException" ∧ Q (-900002) τ))
set_option maxRecDepth 20000 in
theorem oL_runScript {l : Launch} {x : Ctx} (hl : l.stackTraces = false)  (s0 : Mem) (Q : Int32 → Mem → Prop) (E : String → Mem → Prop) (h : wL_runScript  s0 Q E) : MetH l x yL_runScript cL_runScript 2 [(0, 4, 5, 15), (0, 4, 9, 18)] 11 306 2 308 [.ref (xad x 14 0)] s0 (RI Q) := by
  refine MetH.of hl (by decide) (Nat.le_of_ble_eq_true rfl) [some (.ref (xad x 14 0)), none] rfl (fun K B hx _ => ?_)
  subst hx
  unfold wL_runScript at h
  refine g_aload_n (np := 1) B.1 dL_runScript_0 rfl rfl ?_
  refine g_callX (np := 4) B (n := 0) (As := []) (oX12_runScript B.1.tr  s0 _ _ h) b_1353 b_1350 b_1351 b_1352 b_26 (by decide +kernel) rfl (Nat.le_of_ble_eq_true rfl) (Nat.le_of_ble_eq_true rfl) (Nat.le_of_ble_eq_true rfl) dL_runScript_1 (Nat.le_of_ble_eq_true rfl) (Nat.le_of_ble_eq_true rfl) rfl (fun r s2 hr => ?_) (fun E s2 he => ?_)
  · obtain ⟨i, rfl, h⟩ := hr
    show Go K _ _ s2 4 [some (.ref (xad (fX K) 14 0)), none] (.int i :: [])
    exact g_iretH B (Nat.le_of_ble_eq_true rfl) (Nat.le_of_ble_eq_true rfl) dL_runScript_4 ⟨_, rfl, h⟩
  · rcases he with ⟨rfl, h⟩ | ⟨rfl, h⟩
    · refine ⟨[], ⟨0, 4, 5, 15⟩, [⟨0, 4, 9, 18⟩], "java/lang/IllegalArgumentException", rfl, (fun z hz => absurd hz List.not_mem_nil), rfl, by decide, b_504, t_297, fun q => ?_⟩
      refine g_astore_n (np := 6) (lv' := [some (.ref (xad (fX K) 14 0)), some (.ref q)]) B.1 dL_runScript_5 (by decide) rfl rfl rfl ?_
      refine g_ldc (v := (-900001)) (np := 8) B.1 b_802 dL_runScript_6 rfl ?_
      exact g_iretH B (Nat.le_of_ble_eq_true rfl) (Nat.le_of_ble_eq_true rfl) dL_runScript_8 ⟨_, rfl, h⟩
    · refine ⟨[⟨0, 4, 5, 15⟩], ⟨0, 4, 9, 18⟩, [], "java/lang/IllegalStateException", rfl, (fun z hz => by
          rcases List.mem_cons.mp hz with e | hz
          · subst e
            exact Or.inr ⟨by decide, "java/lang/IllegalArgumentException", b_504, B.1.nc "java/lang/IllegalStateException" (by decide) "java/lang/IllegalArgumentException" (by decide) (by decide)⟩
          exact absurd hz List.not_mem_nil), rfl, by decide, b_505, t_632, fun q => ?_⟩
      refine g_astore_n (np := 10) (lv' := [some (.ref (xad (fX K) 14 0)), some (.ref q)]) B.1 dL_runScript_9 (by decide) rfl rfl rfl ?_
      refine g_ldc (v := (-900002)) (np := 12) B.1 b_803 dL_runScript_10 rfl ?_
      exact g_iretH B (Nat.le_of_ble_eq_true rfl) (Nat.le_of_ble_eq_true rfl) dL_runScript_12 ⟨_, rfl, h⟩
def wL_undo  (s0 : Mem) (Q : Int32 → Mem → Prop) (_ : String → Mem → Prop) : Prop := wX12_undo  s0 (fun (r : Int32) τ => Q r τ) (fun E τ => (E = "java/util/NoSuchElementException" ∧ Q (-900001) τ))
set_option maxRecDepth 20000 in
theorem oL_undo {l : Launch} {x : Ctx} (hl : l.stackTraces = false)  (s0 : Mem) (Q : Int32 → Mem → Prop) (E : String → Mem → Prop) (h : wL_undo  s0 Q E) : MetH l x yL_undo cL_undo 2 [(0, 4, 5, 35)] 7 165 1 6 [.ref (xad x 14 0)] s0 (RI Q) := by
  refine MetH.of hl (by decide) (Nat.le_of_ble_eq_true rfl) [some (.ref (xad x 14 0)), none] rfl (fun K B hx _ => ?_)
  subst hx
  unfold wL_undo at h
  refine g_aload_n (np := 1) B.1 dL_undo_0 rfl rfl ?_
  refine g_callX (np := 4) B (n := 0) (As := []) (oX12_undo B.1.tr  s0 _ _ h) b_896 b_893 b_894 b_895 b_26 (by decide +kernel) rfl (Nat.le_of_ble_eq_true rfl) (Nat.le_of_ble_eq_true rfl) (Nat.le_of_ble_eq_true rfl) dL_undo_1 (Nat.le_of_ble_eq_true rfl) (Nat.le_of_ble_eq_true rfl) rfl (fun r s2 hr => ?_) (fun E s2 he => ?_)
  · obtain ⟨i, rfl, h⟩ := hr
    show Go K _ _ s2 4 [some (.ref (xad (fX K) 14 0)), none] (.int i :: [])
    exact g_iretH B (Nat.le_of_ble_eq_true rfl) (Nat.le_of_ble_eq_true rfl) dL_undo_4 ⟨_, rfl, h⟩
  · obtain ⟨rfl, h⟩ := he
    refine ⟨[], ⟨0, 4, 5, 35⟩, [], "java/util/NoSuchElementException", rfl, (fun z hz => absurd hz List.not_mem_nil), rfl, by decide, b_826, t_664, fun q => ?_⟩
    refine g_astore_n (np := 6) (lv' := [some (.ref (xad (fX K) 14 0)), some (.ref q)]) B.1 dL_undo_5 (by decide) rfl rfl rfl ?_
    refine g_ldc (v := (-900001)) (np := 8) B.1 b_802 dL_undo_6 rfl ?_
    exact g_iretH B (Nat.le_of_ble_eq_true rfl) (Nat.le_of_ble_eq_true rfl) dL_undo_8 ⟨_, rfl, h⟩
def wL_restore  (s0 : Mem) (Q : Int32 → Mem → Prop) (_ : String → Mem → Prop) : Prop := wX12_restore  s0 (fun (r : Int32) τ => Q r τ) (fun E τ => (E = "java/lang/IllegalStateException" ∧ Q (-900001) τ))
set_option maxRecDepth 20000 in
theorem oL_restore {l : Launch} {x : Ctx} (hl : l.stackTraces = false)  (s0 : Mem) (Q : Int32 → Mem → Prop) (E : String → Mem → Prop) (h : wL_restore  s0 Q E) : MetH l x yL_restore cL_restore 2 [(0, 4, 5, 18)] 7 143 1 6 [.ref (xad x 14 0)] s0 (RI Q) := by
  refine MetH.of hl (by decide) (Nat.le_of_ble_eq_true rfl) [some (.ref (xad x 14 0)), none] rfl (fun K B hx _ => ?_)
  subst hx
  unfold wL_restore at h
  refine g_aload_n (np := 1) B.1 dL_restore_0 rfl rfl ?_
  refine g_callX (np := 4) B (n := 0) (As := []) (oX12_restore B.1.tr  s0 _ _ h) b_912 b_909 b_910 b_911 b_26 (by decide +kernel) rfl (Nat.le_of_ble_eq_true rfl) (Nat.le_of_ble_eq_true rfl) (Nat.le_of_ble_eq_true rfl) dL_restore_1 (Nat.le_of_ble_eq_true rfl) (Nat.le_of_ble_eq_true rfl) rfl (fun r s2 hr => ?_) (fun E s2 he => ?_)
  · obtain ⟨i, rfl, h⟩ := hr
    show Go K _ _ s2 4 [some (.ref (xad (fX K) 14 0)), none] (.int i :: [])
    exact g_iretH B (Nat.le_of_ble_eq_true rfl) (Nat.le_of_ble_eq_true rfl) dL_restore_4 ⟨_, rfl, h⟩
  · obtain ⟨rfl, h⟩ := he
    refine ⟨[], ⟨0, 4, 5, 18⟩, [], "java/lang/IllegalStateException", rfl, (fun z hz => absurd hz List.not_mem_nil), rfl, by decide, b_505, t_632, fun q => ?_⟩
    refine g_astore_n (np := 6) (lv' := [some (.ref (xad (fX K) 14 0)), some (.ref q)]) B.1 dL_restore_5 (by decide) rfl rfl rfl ?_
    refine g_ldc (v := (-900001)) (np := 8) B.1 b_802 dL_restore_6 rfl ?_
    exact g_iretH B (Nat.le_of_ble_eq_true rfl) (Nat.le_of_ble_eq_true rfl) dL_restore_8 ⟨_, rfl, h⟩
def wL_isIn (a2 : Int32) (a3 : Int32) (a4 : Int32) (s0 : Mem) (Q : Int32 → Mem → Prop) (_ : String → Mem → Prop) : Prop := wX12_isInBlend a2 a3 a4 s0 (fun (r : Int32) τ => (r = 0 → Q 0 τ) ∧ (¬ r = 0 → Q 1 τ)) (fun E τ => (E = "java/util/NoSuchElementException" ∧ Q (-900001) τ) ∨ (E = "java/lang/IllegalArgumentException" ∧ Q (-900002) τ) ∨ (E = "java/lang/UnsupportedOperationException" ∧ Q (-900003) τ))
set_option maxRecDepth 20000 in
theorem oL_isIn {l : Launch} {x : Ctx} (hl : l.stackTraces = false) (a2 : Int32) (a3 : Int32) (a4 : Int32) (s0 : Mem) (Q : Int32 → Mem → Prop) (E : String → Mem → Prop) (h : wL_isIn a2 a3 a4 s0 Q E) : MetH l x yL_isIn cL_isIn 5 [(0, 15, 16, 35), (0, 15, 21, 15), (0, 15, 26, 21)] 8 129 3 18 [.ref (xad x 14 0), .int a2, .int a3, .int a4] s0 (RI Q) := by
  refine MetH.of hl (by decide) (Nat.le_of_ble_eq_true rfl) [some (.ref (xad x 14 0)), some (.int a2), some (.int a3), some (.int a4), none] rfl (fun K B hx _ => ?_)
  subst hx
  unfold wL_isIn at h
  refine g_aload_n (np := 1) B.1 dL_isIn_0 rfl rfl ?_
  refine g_iload_n (np := 2) B.1 dL_isIn_1 rfl rfl ?_
  refine g_iload_n (np := 3) B.1 dL_isIn_2 rfl rfl ?_
  refine g_iload_n (np := 4) B.1 dL_isIn_3 rfl rfl ?_
  refine g_callX (np := 7) B (n := 3) (As := [.int a2, .int a3, .int a4]) (oX12_isInBlend B.1.tr a2 a3 a4 s0 _ _ h) b_924 b_921 b_922 b_923 b_26 (by decide +kernel) rfl (Nat.le_of_ble_eq_true rfl) (Nat.le_of_ble_eq_true rfl) (Nat.le_of_ble_eq_true rfl) dL_isIn_4 (Nat.le_of_ble_eq_true rfl) (Nat.le_of_ble_eq_true rfl) rfl (fun r s2 hr => ?_) (fun E s2 he => ?_)
  · obtain ⟨i, rfl, h⟩ := hr
    show Go K _ _ s2 7 [some (.ref (xad (fX K) 14 0)), some (.int a2), some (.int a3), some (.int a4), none] (.int i :: [])
    refine g_if_eq (np := 10) (tgt := 14) B.1 dL_isIn_7 (by decide) rfl (fun q => ?_) (fun q => ?_)
    · replace h := h.1 q
      refine g_iconst (v := 0) (np := 15) B.1 dL_isIn_14 (by decide) rfl ?_
      exact g_iretH B (Nat.le_of_ble_eq_true rfl) (Nat.le_of_ble_eq_true rfl) dL_isIn_15 ⟨_, rfl, h⟩
    · replace h := h.2 q
      refine g_iconst (v := 1) (np := 11) B.1 dL_isIn_10 (by decide) rfl ?_
      refine g_goto (tgt := 15) B.1 dL_isIn_11 (by decide) ?_
      exact g_iretH B (Nat.le_of_ble_eq_true rfl) (Nat.le_of_ble_eq_true rfl) dL_isIn_15 ⟨_, rfl, h⟩
  · rcases he with ⟨rfl, h⟩ | ⟨rfl, h⟩ | ⟨rfl, h⟩
    · refine ⟨[], ⟨0, 15, 16, 35⟩, [⟨0, 15, 21, 15⟩, ⟨0, 15, 26, 21⟩], "java/util/NoSuchElementException", rfl, (fun z hz => absurd hz List.not_mem_nil), rfl, by decide, b_826, t_664, fun q => ?_⟩
      refine g_astore (np := 18) (lv' := [some (.ref (xad (fX K) 14 0)), some (.int a2), some (.int a3), some (.int a4), some (.ref q)]) B.1 dL_isIn_16 (by decide) rfl rfl rfl ?_
      refine g_ldc (v := (-900001)) (np := 20) B.1 b_802 dL_isIn_18 rfl ?_
      exact g_iretH B (Nat.le_of_ble_eq_true rfl) (Nat.le_of_ble_eq_true rfl) dL_isIn_20 ⟨_, rfl, h⟩
    · refine ⟨[⟨0, 15, 16, 35⟩], ⟨0, 15, 21, 15⟩, [⟨0, 15, 26, 21⟩], "java/lang/IllegalArgumentException", rfl, (fun z hz => by
          rcases List.mem_cons.mp hz with e | hz
          · subst e
            exact Or.inr ⟨by decide, "java/util/NoSuchElementException", b_826, B.1.nc "java/lang/IllegalArgumentException" (by decide) "java/util/NoSuchElementException" (by decide) (by decide)⟩
          exact absurd hz List.not_mem_nil), rfl, by decide, b_504, t_297, fun q => ?_⟩
      refine g_astore (np := 23) (lv' := [some (.ref (xad (fX K) 14 0)), some (.int a2), some (.int a3), some (.int a4), some (.ref q)]) B.1 dL_isIn_21 (by decide) rfl rfl rfl ?_
      refine g_ldc (v := (-900002)) (np := 25) B.1 b_803 dL_isIn_23 rfl ?_
      exact g_iretH B (Nat.le_of_ble_eq_true rfl) (Nat.le_of_ble_eq_true rfl) dL_isIn_25 ⟨_, rfl, h⟩
    · refine ⟨[⟨0, 15, 16, 35⟩, ⟨0, 15, 21, 15⟩], ⟨0, 15, 26, 21⟩, [], "java/lang/UnsupportedOperationException", rfl, (fun z hz => by
          rcases List.mem_cons.mp hz with e | hz
          · subst e
            exact Or.inr ⟨by decide, "java/util/NoSuchElementException", b_826, B.1.nc "java/lang/UnsupportedOperationException" (by decide) "java/util/NoSuchElementException" (by decide) (by decide)⟩
          rcases List.mem_cons.mp hz with e | hz
          · subst e
            exact Or.inr ⟨by decide, "java/lang/IllegalArgumentException", b_504, B.1.nc "java/lang/UnsupportedOperationException" (by decide) "java/lang/IllegalArgumentException" (by decide) (by decide)⟩
          exact absurd hz List.not_mem_nil), rfl, by decide, b_506, t_648, fun q => ?_⟩
      refine g_astore (np := 28) (lv' := [some (.ref (xad (fX K) 14 0)), some (.int a2), some (.int a3), some (.int a4), some (.ref q)]) B.1 dL_isIn_26 (by decide) rfl rfl rfl ?_
      refine g_ldc (v := (-900003)) (np := 30) B.1 b_804 dL_isIn_28 rfl ?_
      exact g_iretH B (Nat.le_of_ble_eq_true rfl) (Nat.le_of_ble_eq_true rfl) dL_isIn_30 ⟨_, rfl, h⟩
