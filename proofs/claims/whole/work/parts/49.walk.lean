/-! THE WALK OF THE LAW UP TO ITS LOOP -/
theorem b_108 : Cond.classLink "YarnMillLaw" 8 "YarnMill" ∈ lw_good := bB 108 (by decide +kernel) (by decide +kernel)
theorem b_109 : Cond.instantiable "YarnMill" 13 ∈ lw_good := bB 109 (by decide +kernel) (by decide +kernel)
theorem b_110 : Cond.methodLink "YarnMillLaw" 142 yX12_init ∈ lw_good := bB 110 (by decide +kernel) (by decide +kernel)
theorem b_111 : Cond.instanceMethod yX12_init ∈ lw_good := bB 111 (by decide +kernel) (by decide +kernel)
theorem b_112 : Cond.code yX12_init cX12_init 1 none ∈ lw_good := bB 112 (by decide +kernel) (by decide +kernel)
theorem b_1744 : Cond.classLink "YarnMillLaw" 143 "YarnMillModel" ∈ lw_good := bB 1744 (by decide +kernel) (by decide +kernel)
theorem b_1745 : Cond.instantiable "YarnMillModel" 20 ∈ lw_good := bB 1745 (by decide +kernel) (by decide +kernel)
theorem b_1746 : Cond.methodLink "YarnMillLaw" 145 yX13_init ∈ lw_good := bB 1746 (by decide +kernel) (by decide +kernel)
theorem b_1747 : Cond.instanceMethod yX13_init ∈ lw_good := bB 1747 (by decide +kernel) (by decide +kernel)
theorem b_1748 : Cond.code yX13_init cX13_init 1 none ∈ lw_good := bB 1748 (by decide +kernel) (by decide +kernel)
theorem b_2246 : Cond.arrayClass .long ∈ lw_good := bB 2246 (by decide +kernel) (by decide +kernel)
theorem b_2247 : Cond.arrayClass .double ∈ lw_good := bB 2247 (by decide +kernel) (by decide +kernel)
set_option maxRecDepth 20000 in
set_option maxHeartbeats 4000000 in
theorem law_walk {K : Fr} {b : Nat} (F : Fx K cL_law "YarnMillLaw" 9) (hao : AOs (fS K)) (hR : fR K = room_1) (kk : GoC K 289 7152 (csF (fX K)) 28 [some (.ref b), some (.ref (xb (fX K) + 0)), some (.ref (xb (fX K) + 277)), some (.ref (xb (fX K) + 287)), some (.ref (xb (fX K) + 288)), some (.int 0), none, none, none] []) : GoC K 0 0 [] 0 [some (.ref b), none, none, none, none, none, none, none, none] [] := by
  refine c_new (np := 3) F (ci := 13) (C := "YarnMill") (T := TX12) (N := 13) rfl (fs := [.null, .null, .null, .int 0, .null, .null, .null, .null, .null, .null, .null, .int 0, .int 0]) inX12 tyX12 tyX12_ok (by intro j hj; match j, hj with | 0, _ => rfl | 1, _ => rfl | 2, _ => rfl | 3, _ => rfl | 4, _ => rfl | 5, _ => rfl | 6, _ => rfl | 7, _ => rfl | 8, _ => rfl | 9, _ => rfl | 10, _ => rfl | 11, _ => rfl | 12, _ => rfl | _ + 13, hj => exact absurd hj (by omega)) b_108 b_109 b_70 (n := 0) rfl (by rw [hR]; exact Nat.le_of_ble_eq_true rfl) (by rw [hR]; exact Nat.le_of_ble_eq_true rfl) dL_law_0 rfl ?_
  refine c_dup (np := 4) F dL_law_3 rfl rfl ?_
  refine c_call (np := 7) F hao (n := 0) (As := []) (kX12_init F.tr ([]) 0 rfl) b_112 b_110 b_111 b_70 rfl (by decide +kernel) rfl (by rw [hR]; exact Nat.le_of_ble_eq_true rfl) (by rw [hR]; exact Nat.le_of_ble_eq_true rfl) (Nat.le_of_ble_eq_true rfl) dL_law_4 (by rw [hR]; exact Nat.le_of_ble_eq_true rfl) (by rw [hR]; exact Nat.le_of_ble_eq_true rfl) rfl ?_
  refine c_astore_n (lv' := [some (.ref b), some (.ref (xb (fX K) + 0)), none, none, none, none, none, none, none]) (np := 8) F dL_law_7 (by decide) rfl rfl rfl ?_
  refine c_new (np := 11) F (ci := 14) (C := "YarnMillModel") (T := TX13) (N := 20) rfl (fs := [.null, .null, .null, .null, .null, .null, .int 0, .int 0, .int 0, .int 0, .int 0, .int 0, .int 0, .null, .int 0, .null, .null, .int 0, .int 0, .int 0]) inX13 tyX13 tyX13_ok (by intro j hj; match j, hj with | 0, _ => rfl | 1, _ => rfl | 2, _ => rfl | 3, _ => rfl | 4, _ => rfl | 5, _ => rfl | 6, _ => rfl | 7, _ => rfl | 8, _ => rfl | 9, _ => rfl | 10, _ => rfl | 11, _ => rfl | 12, _ => rfl | 13, _ => rfl | 14, _ => rfl | 15, _ => rfl | 16, _ => rfl | 17, _ => rfl | 18, _ => rfl | 19, _ => rfl | _ + 20, hj => exact absurd hj (by omega)) b_1744 b_1745 b_85 (n := 277) (by simp only [List.length_append, List.length_nil, mkMill_len] <;> omega) (by rw [hR]; exact Nat.le_of_ble_eq_true rfl) (by rw [hR]; exact Nat.le_of_ble_eq_true rfl) dL_law_8 rfl ?_
  refine c_dup (np := 12) F dL_law_11 rfl rfl ?_
  refine c_call (np := 15) F hao (n := 0) (As := []) (kX13_init F.tr ([] ++ mkMill (fX K) 0) 277 (by simp only [List.length_append, List.length_nil, mkMill_len] <;> omega)) b_1748 b_1746 b_1747 b_85 rfl (by decide +kernel) rfl (by rw [hR]; exact Nat.le_of_ble_eq_true rfl) (by rw [hR]; exact Nat.le_of_ble_eq_true rfl) (Nat.le_of_ble_eq_true rfl) dL_law_12 (by rw [hR]; exact Nat.le_of_ble_eq_true rfl) (by rw [hR]; exact Nat.le_of_ble_eq_true rfl) rfl ?_
  refine c_astore_n (lv' := [some (.ref b), some (.ref (xb (fX K) + 0)), some (.ref (xb (fX K) + 277)), none, none, none, none, none, none]) (np := 16) F dL_law_15 (by decide) rfl rfl rfl ?_
  refine c_iconst (v := 1) (np := 17) F dL_law_16 (by decide) rfl ?_
  refine c_newa (np := 19) F 1 (atype := .long) (ty := .long) rfl rfl (fun _ => rfl) b_2246 (N := 1) (a0 := (1, .inr (.inl (fun _ => 0)))) (fun _ => rfl) (by decide) (by decide) (Nat.le_of_ble_eq_true rfl) (n := 287) (by simp only [List.length_append, List.length_cons, List.length_nil, mkMill_len, mkModel_len] <;> omega) (by rw [hR]; exact Nat.le_of_ble_eq_true rfl) (by rw [hR]; exact Nat.le_of_ble_eq_true rfl) dL_law_17 rfl ?_
  refine c_astore_n (lv' := [some (.ref b), some (.ref (xb (fX K) + 0)), some (.ref (xb (fX K) + 277)), some (.ref (xb (fX K) + 287)), none, none, none, none, none]) (np := 20) F dL_law_19 (by decide) rfl rfl rfl ?_
  refine c_iconst (v := 1) (np := 21) F dL_law_20 (by decide) rfl ?_
  refine c_newa (np := 23) F 2 (atype := .double) (ty := .double) rfl rfl (fun _ => rfl) b_2247 (N := 1) (a0 := (1, .inr (.inr (.inr (.inl (fun _ => 0)))))) (fun _ => rfl) (by decide) (by decide) (Nat.le_of_ble_eq_true rfl) (n := 288) (by simp only [List.length_append, List.length_cons, List.length_nil, mkMill_len, mkModel_len] <;> omega) (by rw [hR]; exact Nat.le_of_ble_eq_true rfl) (by rw [hR]; exact Nat.le_of_ble_eq_true rfl) dL_law_21 rfl ?_
  refine c_astore (lv' := [some (.ref b), some (.ref (xb (fX K) + 0)), some (.ref (xb (fX K) + 277)), some (.ref (xb (fX K) + 287)), some (.ref (xb (fX K) + 288)), none, none, none, none]) (np := 25) F dL_law_23 (by decide) rfl rfl rfl ?_
  refine c_iconst (v := 0) (np := 26) F dL_law_25 (by decide) rfl ?_
  refine c_istore (lv' := [some (.ref b), some (.ref (xb (fX K) + 0)), some (.ref (xb (fX K) + 277)), some (.ref (xb (fX K) + 287)), some (.ref (xb (fX K) + 288)), some (.int 0), none, none, none]) (np := 28) F dL_law_26 (by decide) rfl rfl rfl ?_
  exact GoC.eq rfl kk
