/-! THE CONSTRUCTORS -/
theorem at_mid {pre : List va_E} {h : Nat} (hh : pre.length = h) (o : va_E) (r : List va_E) : (pre ++ o :: r)[h]? = some o := by
  subst hh
  simp
theorem set_mid {pre : List va_E} {h : Nat} (hh : pre.length = h) (o o' : va_E) (r : List va_E) : (pre ++ o :: r).set h o' = pre ++ o' :: r := by
  subst hh
  simp
theorem at_mid1 {pre : List va_E} {h : Nat} (hh : pre.length = h) (j : Nat) (o : va_E) (r : List va_E) : (pre ++ o :: r)[h + (1 + j)]? = r[j]? := by
  subst hh
  rw [List.getElem?_append_right (by omega), show pre.length + (1 + j) - pre.length = j + 1 by omega]
  rfl
theorem set_mid1 {pre : List va_E} {h : Nat} (hh : pre.length = h) (j : Nat) (o e : va_E) (r : List va_E) : (pre ++ o :: r).set (h + (1 + j)) e = pre ++ o :: (r.set j e) := by
  subst hh
  rw [List.set_append_right _ _ (by omega), show pre.length + (1 + j) - pre.length = j + 1 by omega]
  rfl
theorem app_mid (pre r s : List va_E) (o : va_E) : (pre ++ o :: r) ++ s = pre ++ o :: (r ++ s) := by simp
def mkRow (x : Ctx) (cap h : Nat) : List va_E := .inr (8, [.ref (xb x + (h + 1)), .int 0]) :: ([] ++ [.inl (xct x 0, (cap, .inl (fun _ => 0)))])
theorem mkRow_len (x : Ctx) (cap h : Nat) : (mkRow x cap h).length = 2 := rfl
theorem b_80 : Cond.instantiable "java/lang/StringBuilder" 4 ∈ lw_good := bB 80 (by decide +kernel) (by decide +kernel)
theorem b_82 : Cond.instanceMethod yJ4_init_da8c8 ∈ lw_good := bB 82 (by decide +kernel) (by decide +kernel)
theorem b_83 : Cond.code yJ4_init_da8c8 cJ4_init_da8c8 1 none ∈ lw_good := bB 83 (by decide +kernel) (by decide +kernel)
theorem b_84 : Cond.methodLink "java/lang/StringBuilder" 1 yJ5_init_d00df ∈ lw_good := bB 84 (by decide +kernel) (by decide +kernel)
theorem b_85 : Cond.instanceMethod yJ5_init_d00df ∈ lw_good := bB 85 (by decide +kernel) (by decide +kernel)
theorem b_86 : Cond.code yJ5_init_d00df cJ5_init_d00df 2 none ∈ lw_good := bB 86 (by decide +kernel) (by decide +kernel)
theorem b_87 : Cond.methodLink "java/lang/AbstractStringBuilder" 3 Lib.objectInit ∈ lw_good := bB 87 (by decide +kernel) (by decide +kernel)
theorem b_88 : Cond.instanceMethod Lib.objectInit ∈ lw_good := bB 88 (by decide +kernel) (by decide +kernel)
theorem b_89 : Cond.code Lib.objectInit ⟨#[0xb1]⟩ 1 none ∈ lw_good := bB 89 (by decide +kernel) (by decide +kernel)
theorem b_725 : Cond.instantiable "YarnMill$Bales" 6 ∈ lw_good := bB 725 (by decide +kernel) (by decide +kernel)
theorem b_867 : Cond.instantiable "YarnMill$Row" 2 ∈ lw_good := bB 867 (by decide +kernel) (by decide +kernel)
theorem b_953 : Cond.instantiable "YarnMill$Stock" 12 ∈ lw_good := bB 953 (by decide +kernel) (by decide +kernel)
theorem b_955 : Cond.instanceMethod yX10_init ∈ lw_good := bB 955 (by decide +kernel) (by decide +kernel)
theorem b_956 : Cond.code yX10_init cX10_init 1 none ∈ lw_good := bB 956 (by decide +kernel) (by decide +kernel)
theorem b_957 : Cond.methodLink "YarnMill$Stock" 3 Lib.objectInit ∈ lw_good := bB 957 (by decide +kernel) (by decide +kernel)
theorem b_958 : Cond.classLink "YarnMill$Stock" 9 "YarnMill$Bales" ∈ lw_good := bB 958 (by decide +kernel) (by decide +kernel)
theorem t_959 : Cond.methodLinkNest "YarnMill$Stock" 11 yX1_init "YarnMill" ∈ lw_tbl := List.mem_of_getElem? (i := 959) (by decide +kernel)
theorem b_960 : Cond.instanceMethod yX1_init ∈ lw_good := bB 960 (by decide +kernel) (by decide +kernel)
theorem b_961 : Cond.code yX1_init cX1_init 1 none ∈ lw_good := bB 961 (by decide +kernel) (by decide +kernel)
theorem b_962 : Cond.methodLink "YarnMill$Bales" 3 Lib.objectInit ∈ lw_good := bB 962 (by decide +kernel) (by decide +kernel)
theorem b_963 : Cond.classLink "YarnMill$Bales" 9 "YarnMill$Row" ∈ lw_good := bB 963 (by decide +kernel) (by decide +kernel)
theorem b_964 : Cond.methodLink "YarnMill$Bales" 11 yX7_init ∈ lw_good := bB 964 (by decide +kernel) (by decide +kernel)
theorem b_965 : Cond.instanceMethod yX7_init ∈ lw_good := bB 965 (by decide +kernel) (by decide +kernel)
theorem b_966 : Cond.code yX7_init cX7_init 2 none ∈ lw_good := bB 966 (by decide +kernel) (by decide +kernel)
theorem b_967 : Cond.methodLink "YarnMill$Row" 3 Lib.objectInit ∈ lw_good := bB 967 (by decide +kernel) (by decide +kernel)
theorem b_968 : Cond.methodLink "YarnMill$Row" 9 Lib.Math.max.name ∈ lw_good := bB 968 (by decide +kernel) (by decide +kernel)
theorem b_976 : Cond.arrayClass .int ∈ lw_good := bB 976 (by decide +kernel) (by decide +kernel)
theorem b_1005 : Cond.classLink "YarnMill$Stock" 18 "YarnMill$Orders" ∈ lw_good := bB 1005 (by decide +kernel) (by decide +kernel)
theorem b_1006 : Cond.instantiable "YarnMill$Orders" 5 ∈ lw_good := bB 1006 (by decide +kernel) (by decide +kernel)
theorem t_1007 : Cond.methodLinkNest "YarnMill$Stock" 20 yX5_init "YarnMill" ∈ lw_tbl := List.mem_of_getElem? (i := 1007) (by decide +kernel)
theorem b_1008 : Cond.instanceMethod yX5_init ∈ lw_good := bB 1008 (by decide +kernel) (by decide +kernel)
theorem b_1009 : Cond.code yX5_init cX5_init 1 none ∈ lw_good := bB 1009 (by decide +kernel) (by decide +kernel)
theorem b_1010 : Cond.methodLink "YarnMill$Orders" 3 Lib.objectInit ∈ lw_good := bB 1010 (by decide +kernel) (by decide +kernel)
theorem b_1011 : Cond.classLink "YarnMill$Orders" 9 "YarnMill$Row" ∈ lw_good := bB 1011 (by decide +kernel) (by decide +kernel)
theorem b_1012 : Cond.methodLink "YarnMill$Orders" 11 yX7_init ∈ lw_good := bB 1012 (by decide +kernel) (by decide +kernel)
theorem b_1038 : Cond.classLink "YarnMill$Stock" 25 "YarnMill$Row" ∈ lw_good := bB 1038 (by decide +kernel) (by decide +kernel)
theorem b_1039 : Cond.methodLink "YarnMill$Stock" 27 yX7_init ∈ lw_good := bB 1039 (by decide +kernel) (by decide +kernel)
theorem b_1092 : Cond.methodLink "YarnMill$History" 3 Lib.objectInit ∈ lw_good := bB 1092 (by decide +kernel) (by decide +kernel)
theorem b_1093 : Cond.classLink "YarnMill$History" 9 "YarnMill$Stock" ∈ lw_good := bB 1093 (by decide +kernel) (by decide +kernel)
theorem t_1095 : Cond.methodLinkNest "YarnMill$History" 17 yX10_init "YarnMill" ∈ lw_tbl := List.mem_of_getElem? (i := 1095) (by decide +kernel)
theorem b_1110 : Cond.methodLink "YarnMill$BlendFinder" 3 Lib.objectInit ∈ lw_good := bB 1110 (by decide +kernel) (by decide +kernel)
theorem b_1135 : Cond.methodLink "YarnMill$TimeFinder" 3 Lib.objectInit ∈ lw_good := bB 1135 (by decide +kernel) (by decide +kernel)
theorem b_1136 : Cond.classLink "YarnMill$TimeFinder" 18 "YarnMill$Row" ∈ lw_good := bB 1136 (by decide +kernel) (by decide +kernel)
theorem b_1137 : Cond.methodLink "YarnMill$TimeFinder" 20 yX7_init ∈ lw_good := bB 1137 (by decide +kernel) (by decide +kernel)
theorem b_1155 : Cond.methodLink "YarnMill$SpliceFinder" 3 Lib.objectInit ∈ lw_good := bB 1155 (by decide +kernel) (by decide +kernel)
theorem b_1170 : Cond.methodLink "YarnMill$Script" 3 Lib.objectInit ∈ lw_good := bB 1170 (by decide +kernel) (by decide +kernel)
theorem b_1171 : Cond.classLink "YarnMill$Script" 9 "java/lang/StringBuilder" ∈ lw_good := bB 1171 (by decide +kernel) (by decide +kernel)
theorem b_1172 : Cond.methodLink "YarnMill$Script" 11 yJ4_init_da8c8 ∈ lw_good := bB 1172 (by decide +kernel) (by decide +kernel)
theorem b_1173 : Cond.classLink "YarnMill$Script" 18 "YarnMill$Command" ∈ lw_good := bB 1173 (by decide +kernel) (by decide +kernel)
set_option maxRecDepth 20000 in
set_option maxHeartbeats 4000000 in
theorem kX7_init {l : Launch} {x : Ctx} (hl : l.stackTraces = false) (pre : List va_E) (h : Nat) (hh : pre.length = h) (cap : Nat) (hcap : cap ≤ 2000) : MetR l x yX7_init cX7_init 2 1 30 1 cap [.ref (xb x + h), .int (nI cap)] (pre ++ [.inr (8, [.null, .int 0])]) (pre ++ mkRow x cap h) := by
  refine MetR.of hl (by decide) rfl (Nat.le_of_ble_eq_true rfl) [some (.ref (xb x + h)), some (.int (nI cap))] rfl (fun K B hx _ => ?_)
  subst hx
  refine c_aload_n (np := 1) B.1 dX7_init_0 rfl rfl ?_
  refine c_objInit (np := 4) B.1 b_967 b_88 b_89 (by rw [B.2.1]; exact (Nat.le_of_ble_eq_true rfl)) (by rw [B.2.1]; exact (Nat.le_of_ble_eq_true rfl)) dX7_init_1 rfl ?_
  refine c_aload_n (np := 5) B.1 dX7_init_4 rfl rfl ?_
  refine c_iload_n (np := 6) B.1 dX7_init_5 rfl rfl ?_
  refine c_iconst (v := 0) (np := 7) B.1 dX7_init_6 (by decide) rfl ?_
  refine c_mmax (np := 10) B.1 b_968 b_137 b_30 b_138 (by rw [B.2.1]; exact (Nat.le_of_ble_eq_true rfl)) (by rw [B.2.1]; exact (Nat.le_of_ble_eq_true rfl)) (by rw [B.2.1]; exact (Nat.le_of_ble_eq_true rfl)) (by rw [B.2.1]; exact Nat.zero_le _) dX7_init_7 rfl ?_
  rw [if_neg (show ¬ nI cap < 0 from nI_pos (by omega))]
  refine c_newa (np := 12) B.1 0 (atype := .int) (ty := .int) rfl rfl (fun _ => rfl) b_976 (N := cap) (a0 := (cap, .inl (fun _ => 0))) (fun _ => rfl) (nI_clamp (by omega)) (nI_pos (by omega)) (by show cap * 4 ≤ _; omega) (n := h + 1) (by rw [List.length_append, List.length_cons, hh]; rfl) (by rw [B.2.1]; exact (Nat.le_of_ble_eq_true rfl)) (by rw [B.2.1]; exact Nat.le_of_eq (Nat.zero_add cap)) dX7_init_10 rfl ?_
  refine GoC.eq (app_mid _ _ _ _) ?_
  refine c_putF (np := 15) B.1 B.2.2.2.2.1 h (ci := 8) (fs := [.null, .int 0]) (at_mid hh _ _) (C := "YarnMill$Row") (T := TX7) (N := 2) rfl inX7 tyX7 tyX7_ok nmX7 0 (by decide) b_969 rfl rfl (v := .ref (xb (fX K) + (h + 1))) (ty := (.array .int)) (by decide +kernel) rfl rfl (Nat.le_of_ble_eq_true rfl) dX7_init_12 rfl ?_
  refine GoC.eq (set_mid hh _ (.inr (8, [.ref (xb (fX K) + (h + 1)), .int 0])) _) ?_
  exact c_vret B (Nat.le_of_ble_eq_true rfl) (Nat.le_of_eq (Nat.zero_add cap)) dX7_init_15 rfl
def mkBales (x : Ctx) (h : Nat) : List va_E := .inr (4, [.ref (xb x + (h + 1)), .ref (xb x + (h + 3)), .ref (xb x + (h + 5)), .ref (xb x + (h + 7)), .ref (xb x + (h + 9)), .int 0]) :: ((((([] ++ mkRow x 10 (h + 1)) ++ mkRow x 10 (h + 3)) ++ mkRow x 10 (h + 5)) ++ mkRow x 10 (h + 7)) ++ mkRow x 10 (h + 9))
theorem mkBales_len (x : Ctx) (h : Nat) : (mkBales x h).length = 11 := rfl
set_option maxRecDepth 20000 in
set_option maxHeartbeats 4000000 in
theorem kX1_init {l : Launch} {x : Ctx} (hl : l.stackTraces = false) (pre : List va_E) (h : Nat) (hh : pre.length = h) : MetR l x yX1_init cX1_init 1 2 51 10 60 [.ref (xb x + h)] (pre ++ [.inr (4, [.null, .null, .null, .null, .null, .int 0])]) (pre ++ mkBales x h) := by
  refine MetR.of hl (by decide) rfl (Nat.le_of_ble_eq_true rfl) [some (.ref (xb x + h))] rfl (fun K B hx _ => ?_)
  subst hx
  refine c_aload_n (np := 1) B.1 dX1_init_0 rfl rfl ?_
  refine c_objInit (np := 4) B.1 b_962 b_88 b_89 (by rw [B.2.1]; exact (Nat.le_of_ble_eq_true rfl)) (by rw [B.2.1]; exact (Nat.le_of_ble_eq_true rfl)) dX1_init_1 rfl ?_
  refine c_aload_n (np := 5) B.1 dX1_init_4 rfl rfl ?_
  refine c_new (np := 8) B.1 (ci := 8) (C := "YarnMill$Row") (T := TX7) (N := 2) rfl (fs := [.null, .int 0]) inX7 tyX7 tyX7_ok (by intro j hj; match j, hj with | 0, _ => rfl | 1, _ => rfl | _ + 2, hj => exact absurd hj (by omega)) b_963 b_867 b_29 (n := h + 1) (by rw [List.length_append, List.length_cons, hh]; rfl) (by rw [B.2.1]; exact (Nat.le_of_ble_eq_true rfl)) (by rw [B.2.1]; exact (Nat.le_of_ble_eq_true rfl)) dX1_init_5 rfl ?_
  refine c_dup (np := 9) B.1 dX1_init_8 rfl rfl ?_
  refine c_bipush (v := 10) (np := 11) B.1 dX1_init_9 (by decide) rfl ?_
  refine (show GoC K _ _ _ 11 _ (.int (nI 10) :: _) from ?_)
  refine c_call (np := 14) B.1 B.2.2.2.2.2 (n := 1) (As := [.int (nI 10)]) (kX7_init B.1.tr (pre ++ (.inr (4, [.null, .null, .null, .null, .null, .int 0]) :: [])) (h + 1) (by rw [List.length_append, List.length_cons, hh]; rfl) 10 (by decide)) b_966 b_964 b_965 b_29 rfl (by decide +kernel) rfl (by rw [B.2.1]; exact (Nat.le_of_ble_eq_true rfl)) (by rw [B.2.1]; exact (Nat.le_of_ble_eq_true rfl)) (Nat.le_of_ble_eq_true rfl) dX1_init_11 (by rw [B.2.1]; exact (Nat.le_of_ble_eq_true rfl)) (by rw [B.2.1]; exact (Nat.le_of_ble_eq_true rfl)) rfl ?_
  refine GoC.eq (app_mid _ _ _ _) ?_
  refine c_putF (np := 17) B.1 B.2.2.2.2.1 h (ci := 4) (fs := [.null, .null, .null, .null, .null, .int 0]) (at_mid hh _ _) (C := "YarnMill$Bales") (T := TX1) (N := 6) rfl inX1 tyX1 tyX1_ok nmX1 0 (by decide) b_977 rfl rfl (v := .ref (xb (fX K) + (h + 1))) (ty := (.object "YarnMill$Row")) (by decide +kernel) rfl rfl (Nat.le_of_ble_eq_true rfl) dX1_init_14 rfl ?_
  refine GoC.eq (set_mid hh _ (.inr (4, [.ref (xb (fX K) + (h + 1)), .null, .null, .null, .null, .int 0])) _) ?_
  refine c_aload_n (np := 18) B.1 dX1_init_17 rfl rfl ?_
  refine c_new (np := 21) B.1 (ci := 8) (C := "YarnMill$Row") (T := TX7) (N := 2) rfl (fs := [.null, .int 0]) inX7 tyX7 tyX7_ok (by intro j hj; match j, hj with | 0, _ => rfl | 1, _ => rfl | _ + 2, hj => exact absurd hj (by omega)) b_963 b_867 b_29 (n := h + 3) (by rw [List.length_append, List.length_cons, hh]; rfl) (by rw [B.2.1]; exact (Nat.le_of_ble_eq_true rfl)) (by rw [B.2.1]; exact (Nat.le_of_ble_eq_true rfl)) dX1_init_18 rfl ?_
  refine c_dup (np := 22) B.1 dX1_init_21 rfl rfl ?_
  refine c_bipush (v := 10) (np := 24) B.1 dX1_init_22 (by decide) rfl ?_
  refine (show GoC K _ _ _ 24 _ (.int (nI 10) :: _) from ?_)
  refine c_call (np := 27) B.1 B.2.2.2.2.2 (n := 1) (As := [.int (nI 10)]) (kX7_init B.1.tr (pre ++ (.inr (4, [.ref (xb (fX K) + (h + 1)), .null, .null, .null, .null, .int 0]) :: ([] ++ mkRow (fX K) 10 (h + 1)))) (h + 3) (by rw [List.length_append, List.length_cons, hh]; rfl) 10 (by decide)) b_966 b_964 b_965 b_29 rfl (by decide +kernel) rfl (by rw [B.2.1]; exact (Nat.le_of_ble_eq_true rfl)) (by rw [B.2.1]; exact (Nat.le_of_ble_eq_true rfl)) (Nat.le_of_ble_eq_true rfl) dX1_init_24 (by rw [B.2.1]; exact (Nat.le_of_ble_eq_true rfl)) (by rw [B.2.1]; exact (Nat.le_of_ble_eq_true rfl)) rfl ?_
  refine GoC.eq (app_mid _ _ _ _) ?_
  refine c_putF (np := 30) B.1 B.2.2.2.2.1 h (ci := 4) (fs := [.ref (xb (fX K) + (h + 1)), .null, .null, .null, .null, .int 0]) (at_mid hh _ _) (C := "YarnMill$Bales") (T := TX1) (N := 6) rfl inX1 tyX1 tyX1_ok nmX1 1 (by decide) b_981 rfl rfl (v := .ref (xb (fX K) + (h + 3))) (ty := (.object "YarnMill$Row")) (by decide +kernel) rfl rfl (Nat.le_of_ble_eq_true rfl) dX1_init_27 rfl ?_
  refine GoC.eq (set_mid hh _ (.inr (4, [.ref (xb (fX K) + (h + 1)), .ref (xb (fX K) + (h + 3)), .null, .null, .null, .int 0])) _) ?_
  refine c_aload_n (np := 31) B.1 dX1_init_30 rfl rfl ?_
  refine c_new (np := 34) B.1 (ci := 8) (C := "YarnMill$Row") (T := TX7) (N := 2) rfl (fs := [.null, .int 0]) inX7 tyX7 tyX7_ok (by intro j hj; match j, hj with | 0, _ => rfl | 1, _ => rfl | _ + 2, hj => exact absurd hj (by omega)) b_963 b_867 b_29 (n := h + 5) (by rw [List.length_append, List.length_cons, hh]; rfl) (by rw [B.2.1]; exact (Nat.le_of_ble_eq_true rfl)) (by rw [B.2.1]; exact (Nat.le_of_ble_eq_true rfl)) dX1_init_31 rfl ?_
  refine c_dup (np := 35) B.1 dX1_init_34 rfl rfl ?_
  refine c_bipush (v := 10) (np := 37) B.1 dX1_init_35 (by decide) rfl ?_
  refine (show GoC K _ _ _ 37 _ (.int (nI 10) :: _) from ?_)
  refine c_call (np := 40) B.1 B.2.2.2.2.2 (n := 1) (As := [.int (nI 10)]) (kX7_init B.1.tr (pre ++ (.inr (4, [.ref (xb (fX K) + (h + 1)), .ref (xb (fX K) + (h + 3)), .null, .null, .null, .int 0]) :: (([] ++ mkRow (fX K) 10 (h + 1)) ++ mkRow (fX K) 10 (h + 3)))) (h + 5) (by rw [List.length_append, List.length_cons, hh]; rfl) 10 (by decide)) b_966 b_964 b_965 b_29 rfl (by decide +kernel) rfl (by rw [B.2.1]; exact (Nat.le_of_ble_eq_true rfl)) (by rw [B.2.1]; exact (Nat.le_of_ble_eq_true rfl)) (Nat.le_of_ble_eq_true rfl) dX1_init_37 (by rw [B.2.1]; exact (Nat.le_of_ble_eq_true rfl)) (by rw [B.2.1]; exact (Nat.le_of_ble_eq_true rfl)) rfl ?_
  refine GoC.eq (app_mid _ _ _ _) ?_
  refine c_putF (np := 43) B.1 B.2.2.2.2.1 h (ci := 4) (fs := [.ref (xb (fX K) + (h + 1)), .ref (xb (fX K) + (h + 3)), .null, .null, .null, .int 0]) (at_mid hh _ _) (C := "YarnMill$Bales") (T := TX1) (N := 6) rfl inX1 tyX1 tyX1_ok nmX1 2 (by decide) b_984 rfl rfl (v := .ref (xb (fX K) + (h + 5))) (ty := (.object "YarnMill$Row")) (by decide +kernel) rfl rfl (Nat.le_of_ble_eq_true rfl) dX1_init_40 rfl ?_
  refine GoC.eq (set_mid hh _ (.inr (4, [.ref (xb (fX K) + (h + 1)), .ref (xb (fX K) + (h + 3)), .ref (xb (fX K) + (h + 5)), .null, .null, .int 0])) _) ?_
  refine c_aload_n (np := 44) B.1 dX1_init_43 rfl rfl ?_
  refine c_new (np := 47) B.1 (ci := 8) (C := "YarnMill$Row") (T := TX7) (N := 2) rfl (fs := [.null, .int 0]) inX7 tyX7 tyX7_ok (by intro j hj; match j, hj with | 0, _ => rfl | 1, _ => rfl | _ + 2, hj => exact absurd hj (by omega)) b_963 b_867 b_29 (n := h + 7) (by rw [List.length_append, List.length_cons, hh]; rfl) (by rw [B.2.1]; exact (Nat.le_of_ble_eq_true rfl)) (by rw [B.2.1]; exact (Nat.le_of_ble_eq_true rfl)) dX1_init_44 rfl ?_
  refine c_dup (np := 48) B.1 dX1_init_47 rfl rfl ?_
  refine c_bipush (v := 10) (np := 50) B.1 dX1_init_48 (by decide) rfl ?_
  refine (show GoC K _ _ _ 50 _ (.int (nI 10) :: _) from ?_)
  refine c_call (np := 53) B.1 B.2.2.2.2.2 (n := 1) (As := [.int (nI 10)]) (kX7_init B.1.tr (pre ++ (.inr (4, [.ref (xb (fX K) + (h + 1)), .ref (xb (fX K) + (h + 3)), .ref (xb (fX K) + (h + 5)), .null, .null, .int 0]) :: ((([] ++ mkRow (fX K) 10 (h + 1)) ++ mkRow (fX K) 10 (h + 3)) ++ mkRow (fX K) 10 (h + 5)))) (h + 7) (by rw [List.length_append, List.length_cons, hh]; rfl) 10 (by decide)) b_966 b_964 b_965 b_29 rfl (by decide +kernel) rfl (by rw [B.2.1]; exact (Nat.le_of_ble_eq_true rfl)) (by rw [B.2.1]; exact (Nat.le_of_ble_eq_true rfl)) (Nat.le_of_ble_eq_true rfl) dX1_init_50 (by rw [B.2.1]; exact (Nat.le_of_ble_eq_true rfl)) (by rw [B.2.1]; exact (Nat.le_of_ble_eq_true rfl)) rfl ?_
  refine GoC.eq (app_mid _ _ _ _) ?_
  refine c_putF (np := 56) B.1 B.2.2.2.2.1 h (ci := 4) (fs := [.ref (xb (fX K) + (h + 1)), .ref (xb (fX K) + (h + 3)), .ref (xb (fX K) + (h + 5)), .null, .null, .int 0]) (at_mid hh _ _) (C := "YarnMill$Bales") (T := TX1) (N := 6) rfl inX1 tyX1 tyX1_ok nmX1 3 (by decide) b_987 rfl rfl (v := .ref (xb (fX K) + (h + 7))) (ty := (.object "YarnMill$Row")) (by decide +kernel) rfl rfl (Nat.le_of_ble_eq_true rfl) dX1_init_53 rfl ?_
  refine GoC.eq (set_mid hh _ (.inr (4, [.ref (xb (fX K) + (h + 1)), .ref (xb (fX K) + (h + 3)), .ref (xb (fX K) + (h + 5)), .ref (xb (fX K) + (h + 7)), .null, .int 0])) _) ?_
  refine c_aload_n (np := 57) B.1 dX1_init_56 rfl rfl ?_
  refine c_new (np := 60) B.1 (ci := 8) (C := "YarnMill$Row") (T := TX7) (N := 2) rfl (fs := [.null, .int 0]) inX7 tyX7 tyX7_ok (by intro j hj; match j, hj with | 0, _ => rfl | 1, _ => rfl | _ + 2, hj => exact absurd hj (by omega)) b_963 b_867 b_29 (n := h + 9) (by rw [List.length_append, List.length_cons, hh]; rfl) (by rw [B.2.1]; exact (Nat.le_of_ble_eq_true rfl)) (by rw [B.2.1]; exact (Nat.le_of_ble_eq_true rfl)) dX1_init_57 rfl ?_
  refine c_dup (np := 61) B.1 dX1_init_60 rfl rfl ?_
  refine c_bipush (v := 10) (np := 63) B.1 dX1_init_61 (by decide) rfl ?_
  refine (show GoC K _ _ _ 63 _ (.int (nI 10) :: _) from ?_)
  refine c_call (np := 66) B.1 B.2.2.2.2.2 (n := 1) (As := [.int (nI 10)]) (kX7_init B.1.tr (pre ++ (.inr (4, [.ref (xb (fX K) + (h + 1)), .ref (xb (fX K) + (h + 3)), .ref (xb (fX K) + (h + 5)), .ref (xb (fX K) + (h + 7)), .null, .int 0]) :: (((([] ++ mkRow (fX K) 10 (h + 1)) ++ mkRow (fX K) 10 (h + 3)) ++ mkRow (fX K) 10 (h + 5)) ++ mkRow (fX K) 10 (h + 7)))) (h + 9) (by rw [List.length_append, List.length_cons, hh]; rfl) 10 (by decide)) b_966 b_964 b_965 b_29 rfl (by decide +kernel) rfl (by rw [B.2.1]; exact (Nat.le_of_ble_eq_true rfl)) (by rw [B.2.1]; exact (Nat.le_of_ble_eq_true rfl)) (Nat.le_of_ble_eq_true rfl) dX1_init_63 (by rw [B.2.1]; exact (Nat.le_of_ble_eq_true rfl)) (by rw [B.2.1]; exact (Nat.le_of_ble_eq_true rfl)) rfl ?_
  refine GoC.eq (app_mid _ _ _ _) ?_
  refine c_putF (np := 69) B.1 B.2.2.2.2.1 h (ci := 4) (fs := [.ref (xb (fX K) + (h + 1)), .ref (xb (fX K) + (h + 3)), .ref (xb (fX K) + (h + 5)), .ref (xb (fX K) + (h + 7)), .null, .int 0]) (at_mid hh _ _) (C := "YarnMill$Bales") (T := TX1) (N := 6) rfl inX1 tyX1 tyX1_ok nmX1 4 (by decide) b_989 rfl rfl (v := .ref (xb (fX K) + (h + 9))) (ty := (.object "YarnMill$Row")) (by decide +kernel) rfl rfl (Nat.le_of_ble_eq_true rfl) dX1_init_66 rfl ?_
  refine GoC.eq (set_mid hh _ (.inr (4, [.ref (xb (fX K) + (h + 1)), .ref (xb (fX K) + (h + 3)), .ref (xb (fX K) + (h + 5)), .ref (xb (fX K) + (h + 7)), .ref (xb (fX K) + (h + 9)), .int 0])) _) ?_
  exact c_vret B (Nat.le_of_ble_eq_true rfl) (Nat.le_of_ble_eq_true rfl) dX1_init_69 rfl
def mkOrders (x : Ctx) (h : Nat) : List va_E := .inr (7, [.ref (xb x + (h + 1)), .ref (xb x + (h + 3)), .ref (xb x + (h + 5)), .ref (xb x + (h + 7)), .int 0]) :: (((([] ++ mkRow x 8 (h + 1)) ++ mkRow x 8 (h + 3)) ++ mkRow x 8 (h + 5)) ++ mkRow x 8 (h + 7))
theorem mkOrders_len (x : Ctx) (h : Nat) : (mkOrders x h).length = 9 := rfl
set_option maxRecDepth 20000 in
set_option maxHeartbeats 4000000 in
theorem kX5_init {l : Launch} {x : Ctx} (hl : l.stackTraces = false) (pre : List va_E) (h : Nat) (hh : pre.length = h) : MetR l x yX5_init cX5_init 1 2 51 8 40 [.ref (xb x + h)] (pre ++ [.inr (7, [.null, .null, .null, .null, .int 0])]) (pre ++ mkOrders x h) := by
  refine MetR.of hl (by decide) rfl (Nat.le_of_ble_eq_true rfl) [some (.ref (xb x + h))] rfl (fun K B hx _ => ?_)
  subst hx
  refine c_aload_n (np := 1) B.1 dX5_init_0 rfl rfl ?_
  refine c_objInit (np := 4) B.1 b_1010 b_88 b_89 (by rw [B.2.1]; exact (Nat.le_of_ble_eq_true rfl)) (by rw [B.2.1]; exact (Nat.le_of_ble_eq_true rfl)) dX5_init_1 rfl ?_
  refine c_aload_n (np := 5) B.1 dX5_init_4 rfl rfl ?_
  refine c_new (np := 8) B.1 (ci := 8) (C := "YarnMill$Row") (T := TX7) (N := 2) rfl (fs := [.null, .int 0]) inX7 tyX7 tyX7_ok (by intro j hj; match j, hj with | 0, _ => rfl | 1, _ => rfl | _ + 2, hj => exact absurd hj (by omega)) b_1011 b_867 b_29 (n := h + 1) (by rw [List.length_append, List.length_cons, hh]; rfl) (by rw [B.2.1]; exact (Nat.le_of_ble_eq_true rfl)) (by rw [B.2.1]; exact (Nat.le_of_ble_eq_true rfl)) dX5_init_5 rfl ?_
  refine c_dup (np := 9) B.1 dX5_init_8 rfl rfl ?_
  refine c_bipush (v := 8) (np := 11) B.1 dX5_init_9 (by decide) rfl ?_
  refine (show GoC K _ _ _ 11 _ (.int (nI 8) :: _) from ?_)
  refine c_call (np := 14) B.1 B.2.2.2.2.2 (n := 1) (As := [.int (nI 8)]) (kX7_init B.1.tr (pre ++ (.inr (7, [.null, .null, .null, .null, .int 0]) :: [])) (h + 1) (by rw [List.length_append, List.length_cons, hh]; rfl) 8 (by decide)) b_966 b_1012 b_965 b_29 rfl (by decide +kernel) rfl (by rw [B.2.1]; exact (Nat.le_of_ble_eq_true rfl)) (by rw [B.2.1]; exact (Nat.le_of_ble_eq_true rfl)) (Nat.le_of_ble_eq_true rfl) dX5_init_11 (by rw [B.2.1]; exact (Nat.le_of_ble_eq_true rfl)) (by rw [B.2.1]; exact (Nat.le_of_ble_eq_true rfl)) rfl ?_
  refine GoC.eq (app_mid _ _ _ _) ?_
  refine c_putF (np := 17) B.1 B.2.2.2.2.1 h (ci := 7) (fs := [.null, .null, .null, .null, .int 0]) (at_mid hh _ _) (C := "YarnMill$Orders") (T := TX5) (N := 5) rfl inX5 tyX5 tyX5_ok nmX5 0 (by decide) b_1013 rfl rfl (v := .ref (xb (fX K) + (h + 1))) (ty := (.object "YarnMill$Row")) (by decide +kernel) rfl rfl (Nat.le_of_ble_eq_true rfl) dX5_init_14 rfl ?_
  refine GoC.eq (set_mid hh _ (.inr (7, [.ref (xb (fX K) + (h + 1)), .null, .null, .null, .int 0])) _) ?_
  refine c_aload_n (np := 18) B.1 dX5_init_17 rfl rfl ?_
  refine c_new (np := 21) B.1 (ci := 8) (C := "YarnMill$Row") (T := TX7) (N := 2) rfl (fs := [.null, .int 0]) inX7 tyX7 tyX7_ok (by intro j hj; match j, hj with | 0, _ => rfl | 1, _ => rfl | _ + 2, hj => exact absurd hj (by omega)) b_1011 b_867 b_29 (n := h + 3) (by rw [List.length_append, List.length_cons, hh]; rfl) (by rw [B.2.1]; exact (Nat.le_of_ble_eq_true rfl)) (by rw [B.2.1]; exact (Nat.le_of_ble_eq_true rfl)) dX5_init_18 rfl ?_
  refine c_dup (np := 22) B.1 dX5_init_21 rfl rfl ?_
  refine c_bipush (v := 8) (np := 24) B.1 dX5_init_22 (by decide) rfl ?_
  refine (show GoC K _ _ _ 24 _ (.int (nI 8) :: _) from ?_)
  refine c_call (np := 27) B.1 B.2.2.2.2.2 (n := 1) (As := [.int (nI 8)]) (kX7_init B.1.tr (pre ++ (.inr (7, [.ref (xb (fX K) + (h + 1)), .null, .null, .null, .int 0]) :: ([] ++ mkRow (fX K) 8 (h + 1)))) (h + 3) (by rw [List.length_append, List.length_cons, hh]; rfl) 8 (by decide)) b_966 b_1012 b_965 b_29 rfl (by decide +kernel) rfl (by rw [B.2.1]; exact (Nat.le_of_ble_eq_true rfl)) (by rw [B.2.1]; exact (Nat.le_of_ble_eq_true rfl)) (Nat.le_of_ble_eq_true rfl) dX5_init_24 (by rw [B.2.1]; exact (Nat.le_of_ble_eq_true rfl)) (by rw [B.2.1]; exact (Nat.le_of_ble_eq_true rfl)) rfl ?_
  refine GoC.eq (app_mid _ _ _ _) ?_
  refine c_putF (np := 30) B.1 B.2.2.2.2.1 h (ci := 7) (fs := [.ref (xb (fX K) + (h + 1)), .null, .null, .null, .int 0]) (at_mid hh _ _) (C := "YarnMill$Orders") (T := TX5) (N := 5) rfl inX5 tyX5 tyX5_ok nmX5 1 (by decide) b_1017 rfl rfl (v := .ref (xb (fX K) + (h + 3))) (ty := (.object "YarnMill$Row")) (by decide +kernel) rfl rfl (Nat.le_of_ble_eq_true rfl) dX5_init_27 rfl ?_
  refine GoC.eq (set_mid hh _ (.inr (7, [.ref (xb (fX K) + (h + 1)), .ref (xb (fX K) + (h + 3)), .null, .null, .int 0])) _) ?_
  refine c_aload_n (np := 31) B.1 dX5_init_30 rfl rfl ?_
  refine c_new (np := 34) B.1 (ci := 8) (C := "YarnMill$Row") (T := TX7) (N := 2) rfl (fs := [.null, .int 0]) inX7 tyX7 tyX7_ok (by intro j hj; match j, hj with | 0, _ => rfl | 1, _ => rfl | _ + 2, hj => exact absurd hj (by omega)) b_1011 b_867 b_29 (n := h + 5) (by rw [List.length_append, List.length_cons, hh]; rfl) (by rw [B.2.1]; exact (Nat.le_of_ble_eq_true rfl)) (by rw [B.2.1]; exact (Nat.le_of_ble_eq_true rfl)) dX5_init_31 rfl ?_
  refine c_dup (np := 35) B.1 dX5_init_34 rfl rfl ?_
  refine c_bipush (v := 8) (np := 37) B.1 dX5_init_35 (by decide) rfl ?_
  refine (show GoC K _ _ _ 37 _ (.int (nI 8) :: _) from ?_)
  refine c_call (np := 40) B.1 B.2.2.2.2.2 (n := 1) (As := [.int (nI 8)]) (kX7_init B.1.tr (pre ++ (.inr (7, [.ref (xb (fX K) + (h + 1)), .ref (xb (fX K) + (h + 3)), .null, .null, .int 0]) :: (([] ++ mkRow (fX K) 8 (h + 1)) ++ mkRow (fX K) 8 (h + 3)))) (h + 5) (by rw [List.length_append, List.length_cons, hh]; rfl) 8 (by decide)) b_966 b_1012 b_965 b_29 rfl (by decide +kernel) rfl (by rw [B.2.1]; exact (Nat.le_of_ble_eq_true rfl)) (by rw [B.2.1]; exact (Nat.le_of_ble_eq_true rfl)) (Nat.le_of_ble_eq_true rfl) dX5_init_37 (by rw [B.2.1]; exact (Nat.le_of_ble_eq_true rfl)) (by rw [B.2.1]; exact (Nat.le_of_ble_eq_true rfl)) rfl ?_
  refine GoC.eq (app_mid _ _ _ _) ?_
  refine c_putF (np := 43) B.1 B.2.2.2.2.1 h (ci := 7) (fs := [.ref (xb (fX K) + (h + 1)), .ref (xb (fX K) + (h + 3)), .null, .null, .int 0]) (at_mid hh _ _) (C := "YarnMill$Orders") (T := TX5) (N := 5) rfl inX5 tyX5 tyX5_ok nmX5 2 (by decide) b_1020 rfl rfl (v := .ref (xb (fX K) + (h + 5))) (ty := (.object "YarnMill$Row")) (by decide +kernel) rfl rfl (Nat.le_of_ble_eq_true rfl) dX5_init_40 rfl ?_
  refine GoC.eq (set_mid hh _ (.inr (7, [.ref (xb (fX K) + (h + 1)), .ref (xb (fX K) + (h + 3)), .ref (xb (fX K) + (h + 5)), .null, .int 0])) _) ?_
  refine c_aload_n (np := 44) B.1 dX5_init_43 rfl rfl ?_
  refine c_new (np := 47) B.1 (ci := 8) (C := "YarnMill$Row") (T := TX7) (N := 2) rfl (fs := [.null, .int 0]) inX7 tyX7 tyX7_ok (by intro j hj; match j, hj with | 0, _ => rfl | 1, _ => rfl | _ + 2, hj => exact absurd hj (by omega)) b_1011 b_867 b_29 (n := h + 7) (by rw [List.length_append, List.length_cons, hh]; rfl) (by rw [B.2.1]; exact (Nat.le_of_ble_eq_true rfl)) (by rw [B.2.1]; exact (Nat.le_of_ble_eq_true rfl)) dX5_init_44 rfl ?_
  refine c_dup (np := 48) B.1 dX5_init_47 rfl rfl ?_
  refine c_bipush (v := 8) (np := 50) B.1 dX5_init_48 (by decide) rfl ?_
  refine (show GoC K _ _ _ 50 _ (.int (nI 8) :: _) from ?_)
  refine c_call (np := 53) B.1 B.2.2.2.2.2 (n := 1) (As := [.int (nI 8)]) (kX7_init B.1.tr (pre ++ (.inr (7, [.ref (xb (fX K) + (h + 1)), .ref (xb (fX K) + (h + 3)), .ref (xb (fX K) + (h + 5)), .null, .int 0]) :: ((([] ++ mkRow (fX K) 8 (h + 1)) ++ mkRow (fX K) 8 (h + 3)) ++ mkRow (fX K) 8 (h + 5)))) (h + 7) (by rw [List.length_append, List.length_cons, hh]; rfl) 8 (by decide)) b_966 b_1012 b_965 b_29 rfl (by decide +kernel) rfl (by rw [B.2.1]; exact (Nat.le_of_ble_eq_true rfl)) (by rw [B.2.1]; exact (Nat.le_of_ble_eq_true rfl)) (Nat.le_of_ble_eq_true rfl) dX5_init_50 (by rw [B.2.1]; exact (Nat.le_of_ble_eq_true rfl)) (by rw [B.2.1]; exact (Nat.le_of_ble_eq_true rfl)) rfl ?_
  refine GoC.eq (app_mid _ _ _ _) ?_
  refine c_putF (np := 56) B.1 B.2.2.2.2.1 h (ci := 7) (fs := [.ref (xb (fX K) + (h + 1)), .ref (xb (fX K) + (h + 3)), .ref (xb (fX K) + (h + 5)), .null, .int 0]) (at_mid hh _ _) (C := "YarnMill$Orders") (T := TX5) (N := 5) rfl inX5 tyX5 tyX5_ok nmX5 3 (by decide) b_1022 rfl rfl (v := .ref (xb (fX K) + (h + 7))) (ty := (.object "YarnMill$Row")) (by decide +kernel) rfl rfl (Nat.le_of_ble_eq_true rfl) dX5_init_53 rfl ?_
  refine GoC.eq (set_mid hh _ (.inr (7, [.ref (xb (fX K) + (h + 1)), .ref (xb (fX K) + (h + 3)), .ref (xb (fX K) + (h + 5)), .ref (xb (fX K) + (h + 7)), .int 0])) _) ?_
  exact c_vret B (Nat.le_of_ble_eq_true rfl) (Nat.le_of_ble_eq_true rfl) dX5_init_56 rfl
def mkStock (x : Ctx) (h : Nat) : List va_E := .inr (11, [.ref (xb x + (h + 1)), .ref (xb x + (h + 12)), .ref (xb x + (h + 21)), .int 0, .int 1, .int 0, .int 1000, .int 0, .int 0, .int 0, .int 0, .int 0]) :: ((([] ++ mkBales x (h + 1)) ++ mkOrders x (h + 12)) ++ mkRow x 12 (h + 21))
theorem mkStock_len (x : Ctx) (h : Nat) : (mkStock x h).length = 23 := rfl
set_option maxRecDepth 20000 in
set_option maxHeartbeats 4000000 in
theorem kX10_init {l : Launch} {x : Ctx} (hl : l.stackTraces = false) (pre : List va_E) (h : Nat) (hh : pre.length = h) : MetR l x yX10_init cX10_init 1 3 71 22 125 [.ref (xb x + h)] (pre ++ [.inr (11, [.null, .null, .null, .int 0, .int 0, .int 0, .int 0, .int 0, .int 0, .int 0, .int 0, .int 0])]) (pre ++ mkStock x h) := by
  refine MetR.of hl (by decide) rfl (Nat.le_of_ble_eq_true rfl) [some (.ref (xb x + h))] rfl (fun K B hx _ => ?_)
  subst hx
  refine c_aload_n (np := 1) B.1 dX10_init_0 rfl rfl ?_
  refine c_objInit (np := 4) B.1 b_957 b_88 b_89 (by rw [B.2.1]; exact (Nat.le_of_ble_eq_true rfl)) (by rw [B.2.1]; exact (Nat.le_of_ble_eq_true rfl)) dX10_init_1 rfl ?_
  refine c_aload_n (np := 5) B.1 dX10_init_4 rfl rfl ?_
  refine c_new (np := 8) B.1 (ci := 4) (C := "YarnMill$Bales") (T := TX1) (N := 6) rfl (fs := [.null, .null, .null, .null, .null, .int 0]) inX1 tyX1 tyX1_ok (by intro j hj; match j, hj with | 0, _ => rfl | 1, _ => rfl | 2, _ => rfl | 3, _ => rfl | 4, _ => rfl | 5, _ => rfl | _ + 6, hj => exact absurd hj (by omega)) b_958 b_725 b_28 (n := h + 1) (by rw [List.length_append, List.length_cons, hh]; rfl) (by rw [B.2.1]; exact (Nat.le_of_ble_eq_true rfl)) (by rw [B.2.1]; exact (Nat.le_of_ble_eq_true rfl)) dX10_init_5 rfl ?_
  refine c_dup (np := 9) B.1 dX10_init_8 rfl rfl ?_
  refine c_callN (np := 12) B.1 B.2.2.2.2.2 (n := 0) (As := []) (kX1_init B.1.tr (pre ++ (.inr (11, [.null, .null, .null, .int 0, .int 0, .int 0, .int 0, .int 0, .int 0, .int 0, .int 0, .int 0]) :: [])) (h + 1) (by rw [List.length_append, List.length_cons, hh]; rfl)) b_961 t_959 b_960 b_28 rfl (by decide +kernel) rfl (by rw [B.2.1]; exact (Nat.le_of_ble_eq_true rfl)) (by rw [B.2.1]; exact (Nat.le_of_ble_eq_true rfl)) (Nat.le_of_ble_eq_true rfl) dX10_init_9 (by rw [B.2.1]; exact (Nat.le_of_ble_eq_true rfl)) (by rw [B.2.1]; exact (Nat.le_of_ble_eq_true rfl)) rfl ?_
  refine GoC.eq (app_mid _ _ _ _) ?_
  refine c_putF (np := 15) B.1 B.2.2.2.2.1 h (ci := 11) (fs := [.null, .null, .null, .int 0, .int 0, .int 0, .int 0, .int 0, .int 0, .int 0, .int 0, .int 0]) (at_mid hh _ _) (C := "YarnMill$Stock") (T := TX10) (N := 12) rfl inX10 tyX10 tyX10_ok nmX10 0 (by decide) b_1040 rfl rfl (v := .ref (xb (fX K) + (h + 1))) (ty := (.object "YarnMill$Bales")) (by decide +kernel) rfl rfl (Nat.le_of_ble_eq_true rfl) dX10_init_12 rfl ?_
  refine GoC.eq (set_mid hh _ (.inr (11, [.ref (xb (fX K) + (h + 1)), .null, .null, .int 0, .int 0, .int 0, .int 0, .int 0, .int 0, .int 0, .int 0, .int 0])) _) ?_
  refine c_aload_n (np := 16) B.1 dX10_init_15 rfl rfl ?_
  refine c_new (np := 19) B.1 (ci := 7) (C := "YarnMill$Orders") (T := TX5) (N := 5) rfl (fs := [.null, .null, .null, .null, .int 0]) inX5 tyX5 tyX5_ok (by intro j hj; match j, hj with | 0, _ => rfl | 1, _ => rfl | 2, _ => rfl | 3, _ => rfl | 4, _ => rfl | _ + 5, hj => exact absurd hj (by omega)) b_1005 b_1006 b_31 (n := h + 12) (by rw [List.length_append, List.length_cons, hh]; rfl) (by rw [B.2.1]; exact (Nat.le_of_ble_eq_true rfl)) (by rw [B.2.1]; exact (Nat.le_of_ble_eq_true rfl)) dX10_init_16 rfl ?_
  refine c_dup (np := 20) B.1 dX10_init_19 rfl rfl ?_
  refine c_callN (np := 23) B.1 B.2.2.2.2.2 (n := 0) (As := []) (kX5_init B.1.tr (pre ++ (.inr (11, [.ref (xb (fX K) + (h + 1)), .null, .null, .int 0, .int 0, .int 0, .int 0, .int 0, .int 0, .int 0, .int 0, .int 0]) :: ([] ++ mkBales (fX K) (h + 1)))) (h + 12) (by rw [List.length_append, List.length_cons, hh]; rfl)) b_1009 t_1007 b_1008 b_31 rfl (by decide +kernel) rfl (by rw [B.2.1]; exact (Nat.le_of_ble_eq_true rfl)) (by rw [B.2.1]; exact (Nat.le_of_ble_eq_true rfl)) (Nat.le_of_ble_eq_true rfl) dX10_init_20 (by rw [B.2.1]; exact (Nat.le_of_ble_eq_true rfl)) (by rw [B.2.1]; exact (Nat.le_of_ble_eq_true rfl)) rfl ?_
  refine GoC.eq (app_mid _ _ _ _) ?_
  refine c_putF (np := 26) B.1 B.2.2.2.2.1 h (ci := 11) (fs := [.ref (xb (fX K) + (h + 1)), .null, .null, .int 0, .int 0, .int 0, .int 0, .int 0, .int 0, .int 0, .int 0, .int 0]) (at_mid hh _ _) (C := "YarnMill$Stock") (T := TX10) (N := 12) rfl inX10 tyX10 tyX10_ok nmX10 1 (by decide) b_1042 rfl rfl (v := .ref (xb (fX K) + (h + 12))) (ty := (.object "YarnMill$Orders")) (by decide +kernel) rfl rfl (Nat.le_of_ble_eq_true rfl) dX10_init_23 rfl ?_
  refine GoC.eq (set_mid hh _ (.inr (11, [.ref (xb (fX K) + (h + 1)), .ref (xb (fX K) + (h + 12)), .null, .int 0, .int 0, .int 0, .int 0, .int 0, .int 0, .int 0, .int 0, .int 0])) _) ?_
  refine c_aload_n (np := 27) B.1 dX10_init_26 rfl rfl ?_
  refine c_new (np := 30) B.1 (ci := 8) (C := "YarnMill$Row") (T := TX7) (N := 2) rfl (fs := [.null, .int 0]) inX7 tyX7 tyX7_ok (by intro j hj; match j, hj with | 0, _ => rfl | 1, _ => rfl | _ + 2, hj => exact absurd hj (by omega)) b_1038 b_867 b_29 (n := h + 21) (by rw [List.length_append, List.length_cons, hh]; rfl) (by rw [B.2.1]; exact (Nat.le_of_ble_eq_true rfl)) (by rw [B.2.1]; exact (Nat.le_of_ble_eq_true rfl)) dX10_init_27 rfl ?_
  refine c_dup (np := 31) B.1 dX10_init_30 rfl rfl ?_
  refine c_bipush (v := 12) (np := 33) B.1 dX10_init_31 (by decide) rfl ?_
  refine (show GoC K _ _ _ 33 _ (.int (nI 12) :: _) from ?_)
  refine c_call (np := 36) B.1 B.2.2.2.2.2 (n := 1) (As := [.int (nI 12)]) (kX7_init B.1.tr (pre ++ (.inr (11, [.ref (xb (fX K) + (h + 1)), .ref (xb (fX K) + (h + 12)), .null, .int 0, .int 0, .int 0, .int 0, .int 0, .int 0, .int 0, .int 0, .int 0]) :: (([] ++ mkBales (fX K) (h + 1)) ++ mkOrders (fX K) (h + 12)))) (h + 21) (by rw [List.length_append, List.length_cons, hh]; rfl) 12 (by decide)) b_966 b_1039 b_965 b_29 rfl (by decide +kernel) rfl (by rw [B.2.1]; exact (Nat.le_of_ble_eq_true rfl)) (by rw [B.2.1]; exact (Nat.le_of_ble_eq_true rfl)) (Nat.le_of_ble_eq_true rfl) dX10_init_33 (by rw [B.2.1]; exact (Nat.le_of_ble_eq_true rfl)) (by rw [B.2.1]; exact (Nat.le_of_ble_eq_true rfl)) rfl ?_
  refine GoC.eq (app_mid _ _ _ _) ?_
  refine c_putF (np := 39) B.1 B.2.2.2.2.1 h (ci := 11) (fs := [.ref (xb (fX K) + (h + 1)), .ref (xb (fX K) + (h + 12)), .null, .int 0, .int 0, .int 0, .int 0, .int 0, .int 0, .int 0, .int 0, .int 0]) (at_mid hh _ _) (C := "YarnMill$Stock") (T := TX10) (N := 12) rfl inX10 tyX10 tyX10_ok nmX10 2 (by decide) b_1044 rfl rfl (v := .ref (xb (fX K) + (h + 21))) (ty := (.object "YarnMill$Row")) (by decide +kernel) rfl rfl (Nat.le_of_ble_eq_true rfl) dX10_init_36 rfl ?_
  refine GoC.eq (set_mid hh _ (.inr (11, [.ref (xb (fX K) + (h + 1)), .ref (xb (fX K) + (h + 12)), .ref (xb (fX K) + (h + 21)), .int 0, .int 0, .int 0, .int 0, .int 0, .int 0, .int 0, .int 0, .int 0])) _) ?_
  refine c_aload_n (np := 40) B.1 dX10_init_39 rfl rfl ?_
  refine c_iconst (v := 1) (np := 41) B.1 dX10_init_40 (by decide) rfl ?_
  refine c_put (np := 44) B.1 h (ci := 11) (fs := [.ref (xb (fX K) + (h + 1)), .ref (xb (fX K) + (h + 12)), .ref (xb (fX K) + (h + 21)), .int 0, .int 0, .int 0, .int 0, .int 0, .int 0, .int 0, .int 0, .int 0]) (at_mid hh _ _) (C := "YarnMill$Stock") (T := TX10) (N := 12) rfl inX10 tyX10 tyX10_ok nmX10 4 (by decide) b_1048 rfl (v := .int 1) (ty := .int) (by decide +kernel) rfl rfl (Nat.le_of_ble_eq_true rfl) dX10_init_41 rfl ?_
  refine GoC.eq (set_mid hh _ (.inr (11, [.ref (xb (fX K) + (h + 1)), .ref (xb (fX K) + (h + 12)), .ref (xb (fX K) + (h + 21)), .int 0, .int 1, .int 0, .int 0, .int 0, .int 0, .int 0, .int 0, .int 0])) _) ?_
  refine c_aload_n (np := 45) B.1 dX10_init_44 rfl rfl ?_
  refine c_sipush (v := 1000) (np := 48) B.1 dX10_init_45 (by decide) rfl ?_
  refine c_put (np := 51) B.1 h (ci := 11) (fs := [.ref (xb (fX K) + (h + 1)), .ref (xb (fX K) + (h + 12)), .ref (xb (fX K) + (h + 21)), .int 0, .int 1, .int 0, .int 0, .int 0, .int 0, .int 0, .int 0, .int 0]) (at_mid hh _ _) (C := "YarnMill$Stock") (T := TX10) (N := 12) rfl inX10 tyX10 tyX10_ok nmX10 6 (by decide) b_1052 rfl (v := .int 1000) (ty := .int) (by decide +kernel) rfl rfl (Nat.le_of_ble_eq_true rfl) dX10_init_48 rfl ?_
  refine GoC.eq (set_mid hh _ (.inr (11, [.ref (xb (fX K) + (h + 1)), .ref (xb (fX K) + (h + 12)), .ref (xb (fX K) + (h + 21)), .int 0, .int 1, .int 0, .int 1000, .int 0, .int 0, .int 0, .int 0, .int 0])) _) ?_
  exact c_vret B (Nat.le_of_ble_eq_true rfl) (Nat.le_of_ble_eq_true rfl) dX10_init_51 rfl
def mkBlend (x : Ctx) (h : Nat) : List va_E := .inr (5, [.ref (xb x + (h + 1)), .ref (xb x + (h + 2)), .ref (xb x + (h + 3)), .int 0, .int 0, .int 0]) :: ((([] ++ [.inl (xct x 0, (1024, .inl (fun _ => 0)))]) ++ [.inl (xct x 0, (1024, .inl (fun _ => 0)))]) ++ [.inl (xct x 0, (1024, .inl (fun _ => 0)))])
theorem mkBlend_len (x : Ctx) (h : Nat) : (mkBlend x h).length = 4 := rfl
set_option maxRecDepth 20000 in
set_option maxHeartbeats 4000000 in
theorem kX2_init {l : Launch} {x : Ctx} (hl : l.stackTraces = false) (pre : List va_E) (h : Nat) (hh : pre.length = h) : MetR l x yX2_init cX2_init 1 1 30 3 3072 [.ref (xb x + h)] (pre ++ [.inr (5, [.null, .null, .null, .int 0, .int 0, .int 0])]) (pre ++ mkBlend x h) := by
  refine MetR.of hl (by decide) rfl (Nat.le_of_ble_eq_true rfl) [some (.ref (xb x + h))] rfl (fun K B hx _ => ?_)
  subst hx
  refine c_aload_n (np := 1) B.1 dX2_init_0 rfl rfl ?_
  refine c_objInit (np := 4) B.1 b_1110 b_88 b_89 (by rw [B.2.1]; exact (Nat.le_of_ble_eq_true rfl)) (by rw [B.2.1]; exact (Nat.le_of_ble_eq_true rfl)) dX2_init_1 rfl ?_
  refine c_aload_n (np := 5) B.1 dX2_init_4 rfl rfl ?_
  refine c_sipush (v := 1024) (np := 8) B.1 dX2_init_5 (by decide) rfl ?_
  refine c_newa (np := 10) B.1 0 (atype := .int) (ty := .int) rfl rfl (fun _ => rfl) b_976 (N := 1024) (a0 := (1024, .inl (fun _ => 0))) (fun _ => rfl) (by decide) (by decide) (Nat.le_of_ble_eq_true rfl) (n := h + 1) (by rw [List.length_append, List.length_cons, hh]; rfl) (by rw [B.2.1]; exact (Nat.le_of_ble_eq_true rfl)) (by rw [B.2.1]; exact (Nat.le_of_ble_eq_true rfl)) dX2_init_8 rfl ?_
  refine GoC.eq (app_mid _ _ _ _) ?_
  refine c_putF (np := 13) B.1 B.2.2.2.2.1 h (ci := 5) (fs := [.null, .null, .null, .int 0, .int 0, .int 0]) (at_mid hh _ _) (C := "YarnMill$BlendFinder") (T := TX2) (N := 6) rfl inX2 tyX2 tyX2_ok nmX2 0 (by decide) b_1111 rfl rfl (v := .ref (xb (fX K) + (h + 1))) (ty := (.array .int)) (by decide +kernel) rfl rfl (Nat.le_of_ble_eq_true rfl) dX2_init_10 rfl ?_
  refine GoC.eq (set_mid hh _ (.inr (5, [.ref (xb (fX K) + (h + 1)), .null, .null, .int 0, .int 0, .int 0])) _) ?_
  refine c_aload_n (np := 14) B.1 dX2_init_13 rfl rfl ?_
  refine c_sipush (v := 1024) (np := 17) B.1 dX2_init_14 (by decide) rfl ?_
  refine c_newa (np := 19) B.1 0 (atype := .int) (ty := .int) rfl rfl (fun _ => rfl) b_976 (N := 1024) (a0 := (1024, .inl (fun _ => 0))) (fun _ => rfl) (by decide) (by decide) (Nat.le_of_ble_eq_true rfl) (n := h + 2) (by rw [List.length_append, List.length_cons, hh]; rfl) (by rw [B.2.1]; exact (Nat.le_of_ble_eq_true rfl)) (by rw [B.2.1]; exact (Nat.le_of_ble_eq_true rfl)) dX2_init_17 rfl ?_
  refine GoC.eq (app_mid _ _ _ _) ?_
  refine c_putF (np := 22) B.1 B.2.2.2.2.1 h (ci := 5) (fs := [.ref (xb (fX K) + (h + 1)), .null, .null, .int 0, .int 0, .int 0]) (at_mid hh _ _) (C := "YarnMill$BlendFinder") (T := TX2) (N := 6) rfl inX2 tyX2 tyX2_ok nmX2 1 (by decide) b_1112 rfl rfl (v := .ref (xb (fX K) + (h + 2))) (ty := (.array .int)) (by decide +kernel) rfl rfl (Nat.le_of_ble_eq_true rfl) dX2_init_19 rfl ?_
  refine GoC.eq (set_mid hh _ (.inr (5, [.ref (xb (fX K) + (h + 1)), .ref (xb (fX K) + (h + 2)), .null, .int 0, .int 0, .int 0])) _) ?_
  refine c_aload_n (np := 23) B.1 dX2_init_22 rfl rfl ?_
  refine c_sipush (v := 1024) (np := 26) B.1 dX2_init_23 (by decide) rfl ?_
  refine c_newa (np := 28) B.1 0 (atype := .int) (ty := .int) rfl rfl (fun _ => rfl) b_976 (N := 1024) (a0 := (1024, .inl (fun _ => 0))) (fun _ => rfl) (by decide) (by decide) (Nat.le_of_ble_eq_true rfl) (n := h + 3) (by rw [List.length_append, List.length_cons, hh]; rfl) (by rw [B.2.1]; exact (Nat.le_of_ble_eq_true rfl)) (by rw [B.2.1]; exact (Nat.le_of_ble_eq_true rfl)) dX2_init_26 rfl ?_
  refine GoC.eq (app_mid _ _ _ _) ?_
  refine c_putF (np := 31) B.1 B.2.2.2.2.1 h (ci := 5) (fs := [.ref (xb (fX K) + (h + 1)), .ref (xb (fX K) + (h + 2)), .null, .int 0, .int 0, .int 0]) (at_mid hh _ _) (C := "YarnMill$BlendFinder") (T := TX2) (N := 6) rfl inX2 tyX2 tyX2_ok nmX2 2 (by decide) b_1113 rfl rfl (v := .ref (xb (fX K) + (h + 3))) (ty := (.array .int)) (by decide +kernel) rfl rfl (Nat.le_of_ble_eq_true rfl) dX2_init_28 rfl ?_
  refine GoC.eq (set_mid hh _ (.inr (5, [.ref (xb (fX K) + (h + 1)), .ref (xb (fX K) + (h + 2)), .ref (xb (fX K) + (h + 3)), .int 0, .int 0, .int 0])) _) ?_
  exact c_vret B (Nat.le_of_ble_eq_true rfl) (Nat.le_of_ble_eq_true rfl) dX2_init_31 rfl
def mkTime (x : Ctx) (h : Nat) : List va_E := .inr (12, [.ref (xb x + (h + 1)), .ref (xb x + (h + 2)), .ref (xb x + (h + 3)), .int 0]) :: ((([] ++ [.inl (xct x 0, (256, .inl (fun _ => 0)))]) ++ [.inl (xct x 0, (256, .inl (fun _ => 0)))]) ++ mkRow x 3 (h + 3))
theorem mkTime_len (x : Ctx) (h : Nat) : (mkTime x h).length = 5 := rfl
set_option maxRecDepth 20000 in
set_option maxHeartbeats 4000000 in
theorem kX11_init {l : Launch} {x : Ctx} (hl : l.stackTraces = false) (pre : List va_E) (h : Nat) (hh : pre.length = h) : MetR l x yX11_init cX11_init 1 2 51 4 517 [.ref (xb x + h)] (pre ++ [.inr (12, [.null, .null, .null, .int 0])]) (pre ++ mkTime x h) := by
  refine MetR.of hl (by decide) rfl (Nat.le_of_ble_eq_true rfl) [some (.ref (xb x + h))] rfl (fun K B hx _ => ?_)
  subst hx
  refine c_aload_n (np := 1) B.1 dX11_init_0 rfl rfl ?_
  refine c_objInit (np := 4) B.1 b_1135 b_88 b_89 (by rw [B.2.1]; exact (Nat.le_of_ble_eq_true rfl)) (by rw [B.2.1]; exact (Nat.le_of_ble_eq_true rfl)) dX11_init_1 rfl ?_
  refine c_aload_n (np := 5) B.1 dX11_init_4 rfl rfl ?_
  refine c_sipush (v := 256) (np := 8) B.1 dX11_init_5 (by decide) rfl ?_
  refine c_newa (np := 10) B.1 0 (atype := .int) (ty := .int) rfl rfl (fun _ => rfl) b_976 (N := 256) (a0 := (256, .inl (fun _ => 0))) (fun _ => rfl) (by decide) (by decide) (Nat.le_of_ble_eq_true rfl) (n := h + 1) (by rw [List.length_append, List.length_cons, hh]; rfl) (by rw [B.2.1]; exact (Nat.le_of_ble_eq_true rfl)) (by rw [B.2.1]; exact (Nat.le_of_ble_eq_true rfl)) dX11_init_8 rfl ?_
  refine GoC.eq (app_mid _ _ _ _) ?_
  refine c_putF (np := 13) B.1 B.2.2.2.2.1 h (ci := 12) (fs := [.null, .null, .null, .int 0]) (at_mid hh _ _) (C := "YarnMill$TimeFinder") (T := TX11) (N := 4) rfl inX11 tyX11 tyX11_ok nmX11 0 (by decide) b_1138 rfl rfl (v := .ref (xb (fX K) + (h + 1))) (ty := (.array .int)) (by decide +kernel) rfl rfl (Nat.le_of_ble_eq_true rfl) dX11_init_10 rfl ?_
  refine GoC.eq (set_mid hh _ (.inr (12, [.ref (xb (fX K) + (h + 1)), .null, .null, .int 0])) _) ?_
  refine c_aload_n (np := 14) B.1 dX11_init_13 rfl rfl ?_
  refine c_sipush (v := 256) (np := 17) B.1 dX11_init_14 (by decide) rfl ?_
  refine c_newa (np := 19) B.1 0 (atype := .int) (ty := .int) rfl rfl (fun _ => rfl) b_976 (N := 256) (a0 := (256, .inl (fun _ => 0))) (fun _ => rfl) (by decide) (by decide) (Nat.le_of_ble_eq_true rfl) (n := h + 2) (by rw [List.length_append, List.length_cons, hh]; rfl) (by rw [B.2.1]; exact (Nat.le_of_ble_eq_true rfl)) (by rw [B.2.1]; exact (Nat.le_of_ble_eq_true rfl)) dX11_init_17 rfl ?_
  refine GoC.eq (app_mid _ _ _ _) ?_
  refine c_putF (np := 22) B.1 B.2.2.2.2.1 h (ci := 12) (fs := [.ref (xb (fX K) + (h + 1)), .null, .null, .int 0]) (at_mid hh _ _) (C := "YarnMill$TimeFinder") (T := TX11) (N := 4) rfl inX11 tyX11 tyX11_ok nmX11 1 (by decide) b_1139 rfl rfl (v := .ref (xb (fX K) + (h + 2))) (ty := (.array .int)) (by decide +kernel) rfl rfl (Nat.le_of_ble_eq_true rfl) dX11_init_19 rfl ?_
  refine GoC.eq (set_mid hh _ (.inr (12, [.ref (xb (fX K) + (h + 1)), .ref (xb (fX K) + (h + 2)), .null, .int 0])) _) ?_
  refine c_aload_n (np := 23) B.1 dX11_init_22 rfl rfl ?_
  refine c_new (np := 26) B.1 (ci := 8) (C := "YarnMill$Row") (T := TX7) (N := 2) rfl (fs := [.null, .int 0]) inX7 tyX7 tyX7_ok (by intro j hj; match j, hj with | 0, _ => rfl | 1, _ => rfl | _ + 2, hj => exact absurd hj (by omega)) b_1136 b_867 b_29 (n := h + 3) (by rw [List.length_append, List.length_cons, hh]; rfl) (by rw [B.2.1]; exact (Nat.le_of_ble_eq_true rfl)) (by rw [B.2.1]; exact (Nat.le_of_ble_eq_true rfl)) dX11_init_23 rfl ?_
  refine c_dup (np := 27) B.1 dX11_init_26 rfl rfl ?_
  refine c_iconst (v := 3) (np := 28) B.1 dX11_init_27 (by decide) rfl ?_
  refine (show GoC K _ _ _ 28 _ (.int (nI 3) :: _) from ?_)
  refine c_call (np := 31) B.1 B.2.2.2.2.2 (n := 1) (As := [.int (nI 3)]) (kX7_init B.1.tr (pre ++ (.inr (12, [.ref (xb (fX K) + (h + 1)), .ref (xb (fX K) + (h + 2)), .null, .int 0]) :: (([] ++ [.inl (xct (fX K) 0, (256, .inl (fun _ => 0)))]) ++ [.inl (xct (fX K) 0, (256, .inl (fun _ => 0)))]))) (h + 3) (by rw [List.length_append, List.length_cons, hh]; rfl) 3 (by decide)) b_966 b_1137 b_965 b_29 rfl (by decide +kernel) rfl (by rw [B.2.1]; exact (Nat.le_of_ble_eq_true rfl)) (by rw [B.2.1]; exact (Nat.le_of_ble_eq_true rfl)) (Nat.le_of_ble_eq_true rfl) dX11_init_28 (by rw [B.2.1]; exact (Nat.le_of_ble_eq_true rfl)) (by rw [B.2.1]; exact (Nat.le_of_ble_eq_true rfl)) rfl ?_
  refine GoC.eq (app_mid _ _ _ _) ?_
  refine c_putF (np := 34) B.1 B.2.2.2.2.1 h (ci := 12) (fs := [.ref (xb (fX K) + (h + 1)), .ref (xb (fX K) + (h + 2)), .null, .int 0]) (at_mid hh _ _) (C := "YarnMill$TimeFinder") (T := TX11) (N := 4) rfl inX11 tyX11 tyX11_ok nmX11 2 (by decide) b_1140 rfl rfl (v := .ref (xb (fX K) + (h + 3))) (ty := (.object "YarnMill$Row")) (by decide +kernel) rfl rfl (Nat.le_of_ble_eq_true rfl) dX11_init_31 rfl ?_
  refine GoC.eq (set_mid hh _ (.inr (12, [.ref (xb (fX K) + (h + 1)), .ref (xb (fX K) + (h + 2)), .ref (xb (fX K) + (h + 3)), .int 0])) _) ?_
  exact c_vret B (Nat.le_of_ble_eq_true rfl) (Nat.le_of_ble_eq_true rfl) dX11_init_34 rfl
def mkSplice (x : Ctx) (h : Nat) : List va_E := .inr (10, [.ref (xb x + (h + 1)), .ref (xb x + (h + 2))]) :: (([] ++ [.inl (xct x 0, (144, .inl (fun _ => 0)))]) ++ [.inl (xct x 0, (144, .inl (fun _ => 0)))])
theorem mkSplice_len (x : Ctx) (h : Nat) : (mkSplice x h).length = 3 := rfl
set_option maxRecDepth 20000 in
set_option maxHeartbeats 4000000 in
theorem kX9_init {l : Launch} {x : Ctx} (hl : l.stackTraces = false) (pre : List va_E) (h : Nat) (hh : pre.length = h) : MetR l x yX9_init cX9_init 1 1 30 2 288 [.ref (xb x + h)] (pre ++ [.inr (10, [.null, .null])]) (pre ++ mkSplice x h) := by
  refine MetR.of hl (by decide) rfl (Nat.le_of_ble_eq_true rfl) [some (.ref (xb x + h))] rfl (fun K B hx _ => ?_)
  subst hx
  refine c_aload_n (np := 1) B.1 dX9_init_0 rfl rfl ?_
  refine c_objInit (np := 4) B.1 b_1155 b_88 b_89 (by rw [B.2.1]; exact (Nat.le_of_ble_eq_true rfl)) (by rw [B.2.1]; exact (Nat.le_of_ble_eq_true rfl)) dX9_init_1 rfl ?_
  refine c_aload_n (np := 5) B.1 dX9_init_4 rfl rfl ?_
  refine c_sipush (v := 144) (np := 8) B.1 dX9_init_5 (by decide) rfl ?_
  refine c_newa (np := 10) B.1 0 (atype := .int) (ty := .int) rfl rfl (fun _ => rfl) b_976 (N := 144) (a0 := (144, .inl (fun _ => 0))) (fun _ => rfl) (by decide) (by decide) (Nat.le_of_ble_eq_true rfl) (n := h + 1) (by rw [List.length_append, List.length_cons, hh]; rfl) (by rw [B.2.1]; exact (Nat.le_of_ble_eq_true rfl)) (by rw [B.2.1]; exact (Nat.le_of_ble_eq_true rfl)) dX9_init_8 rfl ?_
  refine GoC.eq (app_mid _ _ _ _) ?_
  refine c_putF (np := 13) B.1 B.2.2.2.2.1 h (ci := 10) (fs := [.null, .null]) (at_mid hh _ _) (C := "YarnMill$SpliceFinder") (T := TX9) (N := 2) rfl inX9 tyX9 tyX9_ok nmX9 0 (by decide) b_1156 rfl rfl (v := .ref (xb (fX K) + (h + 1))) (ty := (.array .int)) (by decide +kernel) rfl rfl (Nat.le_of_ble_eq_true rfl) dX9_init_10 rfl ?_
  refine GoC.eq (set_mid hh _ (.inr (10, [.ref (xb (fX K) + (h + 1)), .null])) _) ?_
  refine c_aload_n (np := 14) B.1 dX9_init_13 rfl rfl ?_
  refine c_sipush (v := 144) (np := 17) B.1 dX9_init_14 (by decide) rfl ?_
  refine c_newa (np := 19) B.1 0 (atype := .int) (ty := .int) rfl rfl (fun _ => rfl) b_976 (N := 144) (a0 := (144, .inl (fun _ => 0))) (fun _ => rfl) (by decide) (by decide) (Nat.le_of_ble_eq_true rfl) (n := h + 2) (by rw [List.length_append, List.length_cons, hh]; rfl) (by rw [B.2.1]; exact (Nat.le_of_ble_eq_true rfl)) (by rw [B.2.1]; exact (Nat.le_of_ble_eq_true rfl)) dX9_init_17 rfl ?_
  refine GoC.eq (app_mid _ _ _ _) ?_
  refine c_putF (np := 22) B.1 B.2.2.2.2.1 h (ci := 10) (fs := [.ref (xb (fX K) + (h + 1)), .null]) (at_mid hh _ _) (C := "YarnMill$SpliceFinder") (T := TX9) (N := 2) rfl inX9 tyX9 tyX9_ok nmX9 1 (by decide) b_1157 rfl rfl (v := .ref (xb (fX K) + (h + 2))) (ty := (.array .int)) (by decide +kernel) rfl rfl (Nat.le_of_ble_eq_true rfl) dX9_init_19 rfl ?_
  refine GoC.eq (set_mid hh _ (.inr (10, [.ref (xb (fX K) + (h + 1)), .ref (xb (fX K) + (h + 2))])) _) ?_
  exact c_vret B (Nat.le_of_ble_eq_true rfl) (Nat.le_of_ble_eq_true rfl) dX9_init_22 rfl
def mkSb (x : Ctx) (h : Nat) : List va_E := .inr (1, [.ref (xb x + (h + 1)), .int 0, .int 0, .int 0]) :: ([] ++ [.inl (xct x 3, (16, .inl (fun _ => 0)))])
theorem mkSb_len (x : Ctx) (h : Nat) : (mkSb x h).length = 2 := rfl
set_option maxRecDepth 20000 in
set_option maxHeartbeats 4000000 in
theorem kJ5_init_d00df {l : Launch} {x : Ctx} (hl : l.stackTraces = false) (pre : List va_E) (h : Nat) (hh : pre.length = h) : MetR l x yJ5_init_d00df cJ5_init_d00df 2 1 30 1 16 [.ref (xb x + h), .int 16] (pre ++ [.inr (1, [.null, .int 0, .int 0, .int 0])]) (pre ++ mkSb x h) := by
  refine MetR.of hl (by decide) rfl (Nat.le_of_ble_eq_true rfl) [some (.ref (xb x + h)), some (.int 16)] rfl (fun K B hx _ => ?_)
  subst hx
  refine c_aload_n (np := 1) B.1 dJ5_init_d00df_0 rfl rfl ?_
  refine c_objInit (np := 4) B.1 b_87 b_88 b_89 (by rw [B.2.1]; exact (Nat.le_of_ble_eq_true rfl)) (by rw [B.2.1]; exact (Nat.le_of_ble_eq_true rfl)) dJ5_init_d00df_1 rfl ?_
  refine c_compact (np := 7) B.1 b_90 dJ5_init_d00df_4 rfl ?_
  refine c_if_eq (np := 10) (tgt := 25) B.1 dJ5_init_d00df_7 (by decide) rfl (fun q => absurd q (by decide)) (fun _ => ?_)
  refine c_aload_n (np := 11) B.1 dJ5_init_d00df_10 rfl rfl ?_
  refine c_iload_n (np := 12) B.1 dJ5_init_d00df_11 rfl rfl ?_
  refine c_newa (np := 14) B.1 3 (atype := .byte) (ty := .byte) rfl rfl (fun _ => rfl) b_112 (N := 16) (a0 := (16, .inl (fun _ => 0))) (fun _ => rfl) (by decide) (by decide) (Nat.le_of_ble_eq_true rfl) (n := h + 1) (by rw [List.length_append, List.length_cons, hh]; rfl) (by rw [B.2.1]; exact (Nat.le_of_ble_eq_true rfl)) (by rw [B.2.1]; exact (Nat.le_of_ble_eq_true rfl)) dJ5_init_d00df_12 rfl ?_
  refine GoC.eq (app_mid _ _ _ _) ?_
  refine c_put (np := 17) B.1 h (ci := 1) (fs := [.null, .int 0, .int 0, .int 0]) (at_mid hh _ _) (C := "java/lang/StringBuilder") (T := TJ4) (N := 4) rfl inJ4 tyJ4 tyJ4_ok nmJ4 0 (by decide) b_99 rfl (v := .ref (xb (fX K) + (h + 1))) (ty := (.array .byte)) (by decide +kernel) rfl rfl (Nat.le_of_ble_eq_true rfl) dJ5_init_d00df_14 rfl ?_
  refine GoC.eq (set_mid hh _ (.inr (1, [.ref (xb (fX K) + (h + 1)), .int 0, .int 0, .int 0])) _) ?_
  refine c_aload_n (np := 18) B.1 dJ5_init_d00df_17 rfl rfl ?_
  refine c_iconst (v := 0) (np := 19) B.1 dJ5_init_d00df_18 (by decide) rfl ?_
  refine c_put (np := 22) B.1 h (ci := 1) (fs := [.ref (xb (fX K) + (h + 1)), .int 0, .int 0, .int 0]) (at_mid hh _ _) (C := "java/lang/StringBuilder") (T := TJ4) (N := 4) rfl inJ4 tyJ4 tyJ4_ok nmJ4 1 (by decide) b_100 rfl (v := .int 0) (ty := .byte) (by decide +kernel) (by decide) (by decide) (Nat.le_of_ble_eq_true rfl) dJ5_init_d00df_19 rfl ?_
  refine GoC.eq (set_mid hh _ (.inr (1, [.ref (xb (fX K) + (h + 1)), .int 0, .int 0, .int 0])) _) ?_
  refine c_goto (tgt := 38) B.1 dJ5_init_d00df_22 (by decide) ?_
  exact c_vret B (Nat.le_of_ble_eq_true rfl) (Nat.le_of_ble_eq_true rfl) dJ5_init_d00df_38 rfl
set_option maxRecDepth 20000 in
set_option maxHeartbeats 4000000 in
theorem kJ4_init_da8c8 {l : Launch} {x : Ctx} (hl : l.stackTraces = false) (pre : List va_E) (h : Nat) (hh : pre.length = h) : MetR l x yJ4_init_da8c8 cJ4_init_da8c8 1 2 51 1 16 [.ref (xb x + h)] (pre ++ [.inr (1, [.null, .int 0, .int 0, .int 0])]) (pre ++ mkSb x h) := by
  refine MetR.of hl (by decide) rfl (Nat.le_of_ble_eq_true rfl) [some (.ref (xb x + h))] rfl (fun K B hx _ => ?_)
  subst hx
  refine c_aload_n (np := 1) B.1 dJ4_init_da8c8_0 rfl rfl ?_
  refine c_bipush (v := 16) (np := 3) B.1 dJ4_init_da8c8_1 (by decide) rfl ?_
  refine c_call (np := 6) B.1 B.2.2.2.2.2 (n := 1) (As := [.int 16]) (kJ5_init_d00df B.1.tr pre h hh) b_86 b_84 b_85 b_37 rfl (by decide +kernel) rfl (by rw [B.2.1]; exact (Nat.le_of_ble_eq_true rfl)) (by rw [B.2.1]; exact (Nat.le_of_ble_eq_true rfl)) (Nat.le_of_ble_eq_true rfl) dJ4_init_da8c8_3 (by rw [B.2.1]; exact (Nat.le_of_ble_eq_true rfl)) (by rw [B.2.1]; exact (Nat.le_of_ble_eq_true rfl)) rfl ?_
  exact c_vret B (Nat.le_of_ble_eq_true rfl) (Nat.le_of_ble_eq_true rfl) dJ4_init_da8c8_6 rfl
def mkScript (x : Ctx) (h : Nat) : List va_E := .inr (9, [.ref (xb x + (h + 1)), .ref (xb x + (h + 3)), .ref (xb x + (h + 4)), .int 0, .int 0]) :: ((([] ++ mkSb x (h + 1)) ++ [.inl (xct x 5, (60, .inr (.inr (.inr (.inr (fun _ => none))))))]) ++ [.inl (xct x 0, (180, .inl (fun _ => 0)))])
theorem mkScript_len (x : Ctx) (h : Nat) : (mkScript x h).length = 5 := rfl
set_option maxRecDepth 20000 in
set_option maxHeartbeats 4000000 in
theorem kX8_init {l : Launch} {x : Ctx} (hl : l.stackTraces = false) (pre : List va_E) (h : Nat) (hh : pre.length = h) : MetR l x yX8_init cX8_init 1 3 71 4 260 [.ref (xb x + h)] (pre ++ [.inr (9, [.null, .null, .null, .int 0, .int 0])]) (pre ++ mkScript x h) := by
  refine MetR.of hl (by decide) rfl (Nat.le_of_ble_eq_true rfl) [some (.ref (xb x + h))] rfl (fun K B hx _ => ?_)
  subst hx
  refine c_aload_n (np := 1) B.1 dX8_init_0 rfl rfl ?_
  refine c_objInit (np := 4) B.1 b_1170 b_88 b_89 (by rw [B.2.1]; exact (Nat.le_of_ble_eq_true rfl)) (by rw [B.2.1]; exact (Nat.le_of_ble_eq_true rfl)) dX8_init_1 rfl ?_
  refine c_aload_n (np := 5) B.1 dX8_init_4 rfl rfl ?_
  refine c_new (np := 8) B.1 (ci := 1) (C := "java/lang/StringBuilder") (T := TJ4) (N := 4) rfl (fs := [.null, .int 0, .int 0, .int 0]) inJ4 tyJ4 tyJ4_ok (by intro j hj; match j, hj with | 0, _ => rfl | 1, _ => rfl | 2, _ => rfl | 3, _ => rfl | _ + 4, hj => exact absurd hj (by omega)) b_1171 b_80 b_38 (n := h + 1) (by rw [List.length_append, List.length_cons, hh]; rfl) (by rw [B.2.1]; exact (Nat.le_of_ble_eq_true rfl)) (by rw [B.2.1]; exact (Nat.le_of_ble_eq_true rfl)) dX8_init_5 rfl ?_
  refine c_dup (np := 9) B.1 dX8_init_8 rfl rfl ?_
  refine c_call (np := 12) B.1 B.2.2.2.2.2 (n := 0) (As := []) (kJ4_init_da8c8 B.1.tr (pre ++ (.inr (9, [.null, .null, .null, .int 0, .int 0]) :: [])) (h + 1) (by rw [List.length_append, List.length_cons, hh]; rfl)) b_83 b_1172 b_82 b_38 rfl (by decide +kernel) rfl (by rw [B.2.1]; exact (Nat.le_of_ble_eq_true rfl)) (by rw [B.2.1]; exact (Nat.le_of_ble_eq_true rfl)) (Nat.le_of_ble_eq_true rfl) dX8_init_9 (by rw [B.2.1]; exact (Nat.le_of_ble_eq_true rfl)) (by rw [B.2.1]; exact (Nat.le_of_ble_eq_true rfl)) rfl ?_
  refine GoC.eq (app_mid _ _ _ _) ?_
  refine c_putF (np := 15) B.1 B.2.2.2.2.1 h (ci := 9) (fs := [.null, .null, .null, .int 0, .int 0]) (at_mid hh _ _) (C := "YarnMill$Script") (T := TX8) (N := 5) rfl inX8 tyX8 tyX8_ok nmX8 0 (by decide) b_1175 rfl rfl (v := .ref (xb (fX K) + (h + 1))) (ty := (.object "java/lang/StringBuilder")) (by decide +kernel) rfl rfl (Nat.le_of_ble_eq_true rfl) dX8_init_12 rfl ?_
  refine GoC.eq (set_mid hh _ (.inr (9, [.ref (xb (fX K) + (h + 1)), .null, .null, .int 0, .int 0])) _) ?_
  refine c_aload_n (np := 16) B.1 dX8_init_15 rfl rfl ?_
  refine c_bipush (v := 60) (np := 18) B.1 dX8_init_16 (by decide) rfl ?_
  refine c_newq (np := 21) B.1 5 (C := "YarnMill$Command") rfl b_1173 B.2.2.2.2.2.2 (N := 60) (by decide) (by decide) (Nat.le_of_ble_eq_true rfl) (n := h + 3) (by rw [List.length_append, List.length_cons, hh]; rfl) (by rw [B.2.1]; exact (Nat.le_of_ble_eq_true rfl)) (by rw [B.2.1]; exact (Nat.le_of_ble_eq_true rfl)) dX8_init_18 rfl ?_
  refine GoC.eq (app_mid _ _ _ _) ?_
  refine c_putF (np := 24) B.1 B.2.2.2.2.1 h (ci := 9) (fs := [.ref (xb (fX K) + (h + 1)), .null, .null, .int 0, .int 0]) (at_mid hh _ _) (C := "YarnMill$Script") (T := TX8) (N := 5) rfl inX8 tyX8 tyX8_ok nmX8 1 (by decide) b_1176 rfl rfl (v := .ref (xb (fX K) + (h + 3))) (ty := (.array (.object "YarnMill$Command"))) (by decide +kernel) rfl rfl (Nat.le_of_ble_eq_true rfl) dX8_init_21 rfl ?_
  refine GoC.eq (set_mid hh _ (.inr (9, [.ref (xb (fX K) + (h + 1)), .ref (xb (fX K) + (h + 3)), .null, .int 0, .int 0])) _) ?_
  refine c_aload_n (np := 25) B.1 dX8_init_24 rfl rfl ?_
  refine c_sipush (v := 180) (np := 28) B.1 dX8_init_25 (by decide) rfl ?_
  refine c_newa (np := 30) B.1 0 (atype := .int) (ty := .int) rfl rfl (fun _ => rfl) b_976 (N := 180) (a0 := (180, .inl (fun _ => 0))) (fun _ => rfl) (by decide) (by decide) (Nat.le_of_ble_eq_true rfl) (n := h + 4) (by rw [List.length_append, List.length_cons, hh]; rfl) (by rw [B.2.1]; exact (Nat.le_of_ble_eq_true rfl)) (by rw [B.2.1]; exact (Nat.le_of_ble_eq_true rfl)) dX8_init_28 rfl ?_
  refine GoC.eq (app_mid _ _ _ _) ?_
  refine c_putF (np := 33) B.1 B.2.2.2.2.1 h (ci := 9) (fs := [.ref (xb (fX K) + (h + 1)), .ref (xb (fX K) + (h + 3)), .null, .int 0, .int 0]) (at_mid hh _ _) (C := "YarnMill$Script") (T := TX8) (N := 5) rfl inX8 tyX8 tyX8_ok nmX8 2 (by decide) b_1177 rfl rfl (v := .ref (xb (fX K) + (h + 4))) (ty := (.array .int)) (by decide +kernel) rfl rfl (Nat.le_of_ble_eq_true rfl) dX8_init_30 rfl ?_
  refine GoC.eq (set_mid hh _ (.inr (9, [.ref (xb (fX K) + (h + 1)), .ref (xb (fX K) + (h + 3)), .ref (xb (fX K) + (h + 4)), .int 0, .int 0])) _) ?_
  exact c_vret B (Nat.le_of_ble_eq_true rfl) (Nat.le_of_ble_eq_true rfl) dX8_init_33 rfl
def mkStocks (x : Ctx) (h0 : Nat) : Nat → List va_E
  | 0 => []
  | n + 1 => mkStocks x h0 n ++ mkStock x (h0 + 23 * n)
theorem mkStocks_len (x : Ctx) (h0 : Nat) : ∀ n, (mkStocks x h0 n).length = 23 * n
  | 0 => rfl
  | n + 1 => by
    show (mkStocks x h0 n ++ mkStock x (h0 + 23 * n)).length = _
    rw [List.length_append, mkStocks_len x h0 n]
    show 23 * n + 23 = 23 * (n + 1)
    omega
def rgF (x : Ctx) (h0 i : Nat) : Nat → Option Nat := fun j => if j < i then some (xb x + (h0 + 23 * j)) else none
theorem rgF_up (x : Ctx) (h0 i : Nat) : va_up (rgF x h0 i) i (some (xb x + (h0 + 23 * i))) = rgF x h0 (i + 1) := by
  funext j
  unfold va_up rgF
  by_cases hj : j = i
  · subst hj
    rw [if_pos rfl, if_pos (by omega)]
  · rw [if_neg hj]
    by_cases h2 : j < i
    · rw [if_pos h2, if_pos (by omega)]
    · rw [if_neg h2, if_neg (by omega)]
def mkHistory (x : Ctx) (h : Nat) : List va_E := .inr (6, [.ref (xb x + (h + 1)), .int 0, .int 0]) :: ([.inl (xct x 4, (8, .inr (.inr (.inr (.inr (rgF x (h + 2) 8))))))] ++ mkStocks x (h + 2) 8)
theorem mkHistory_len (x : Ctx) (h : Nat) : (mkHistory x h).length = 2 + 23 * 8 := by
  unfold mkHistory
  rw [List.length_cons, List.length_append, mkStocks_len]
  rfl
set_option maxRecDepth 20000 in
set_option maxHeartbeats 4000000 in
theorem kX4_init {l : Launch} {x : Ctx} (hl : l.stackTraces = false) (pre : List va_E) (h : Nat) (hh : pre.length = h) : MetR l x yX4_init cX4_init 2 4 91 185 1104 [.ref (xb x + h)] (pre ++ [.inr (6, [.null, .int 0, .int 0])]) (pre ++ mkHistory x h) := by
  refine MetR.of hl (by decide) rfl (Nat.le_of_ble_eq_true rfl) [some (.ref (xb x + h)), none] rfl (fun K B hx _ => ?_)
  subst hx
  have loop : ∀ (m i cells slots : Nat), i + m = 8 → cells + m * 23 ≤ 185 → slots + m * 137 ≤ 1104 → GoC K cells slots (pre ++ (.inr (6, [.ref (xb (fX K) + (h + 1)), .int 0, .int 0]) :: ([.inl (xct (fX K) 4, (8, .inr (.inr (.inr (.inr (rgF (fX K) (h + 2) i))))))] ++ mkStocks (fX K) (h + 2) i))) 15 [some (.ref (xb (fX K) + h)), some (.int (nI i))] [] := by
    intro m
    induction m with
    | zero =>
      intro i cells slots hi hc hs
      obtain rfl : i = 8 := by omega
      refine c_iload_n (np := 16) B.1 dX4_init_15 rfl rfl ?_
      refine c_aload_n (np := 17) B.1 dX4_init_16 rfl rfl ?_
      refine c_get (np := 20) B.1 h (ci := 6) (fs := [.ref (xb (fX K) + (h + 1)), .int 0, .int 0]) (at_mid hh _ _) (C := "YarnMill$History") (T := TX4) (N := 3) rfl inX4 0 (by decide) b_1096 (v := .ref (xb (fX K) + (h + 1))) rfl dX4_init_17 rfl ?_
      refine c_alen (np := 21) B.1 (h + (1 + 0)) ((at_mid1 hh 0 _ _).trans rfl) (t0 := 4) rfl (v := nI 8) rfl dX4_init_20 rfl ?_
      refine c_icmp_ge (np := 24) (tgt := 43) B.1 dX4_init_21 (by decide) rfl (fun _ => ?_) (fun q => absurd (by decide) q)
      exact c_vret B (by omega) (by omega) dX4_init_43 rfl
    | succ m ih =>
      intro i cells slots hi hc hs
      refine c_iload_n (np := 16) B.1 dX4_init_15 rfl rfl ?_
      refine c_aload_n (np := 17) B.1 dX4_init_16 rfl rfl ?_
      refine c_get (np := 20) B.1 h (ci := 6) (fs := [.ref (xb (fX K) + (h + 1)), .int 0, .int 0]) (at_mid hh _ _) (C := "YarnMill$History") (T := TX4) (N := 3) rfl inX4 0 (by decide) b_1096 (v := .ref (xb (fX K) + (h + 1))) rfl dX4_init_17 rfl ?_
      refine c_alen (np := 21) B.1 (h + (1 + 0)) ((at_mid1 hh 0 _ _).trans rfl) (t0 := 4) rfl (v := nI 8) rfl dX4_init_20 rfl ?_
      refine c_icmp_ge (np := 24) (tgt := 43) B.1 dX4_init_21 (by decide) rfl (fun q => absurd q (nI_ge (by omega) (by omega))) (fun _ => ?_)
      refine c_aload_n (np := 25) B.1 dX4_init_24 rfl rfl ?_
      refine c_get (np := 28) B.1 h (ci := 6) (fs := [.ref (xb (fX K) + (h + 1)), .int 0, .int 0]) (at_mid hh _ _) (C := "YarnMill$History") (T := TX4) (N := 3) rfl inX4 0 (by decide) b_1096 (v := .ref (xb (fX K) + (h + 1))) rfl dX4_init_25 rfl ?_
      refine c_iload_n (np := 29) B.1 dX4_init_28 rfl rfl ?_
      have hlen : (pre ++ (.inr (6, [.ref (xb (fX K) + (h + 1)), .int 0, .int 0]) :: ([.inl (xct (fX K) 4, (8, .inr (.inr (.inr (.inr (rgF (fX K) (h + 2) i))))))] ++ mkStocks (fX K) (h + 2) i)) : List va_E).length = h + 2 + 23 * i := by
        rw [List.length_append, List.length_cons, List.length_append, mkStocks_len, hh]
        simp only [List.length_cons, List.length_nil]
        omega
      refine c_new (np := 32) B.1 (ci := 11) (C := "YarnMill$Stock") (T := TX10) (N := 12) rfl (fs := [.null, .null, .null, .int 0, .int 0, .int 0, .int 0, .int 0, .int 0, .int 0, .int 0, .int 0]) inX10 tyX10 tyX10_ok (by intro j hj; match j, hj with | 0, _ => rfl | 1, _ => rfl | 2, _ => rfl | 3, _ => rfl | 4, _ => rfl | 5, _ => rfl | 6, _ => rfl | 7, _ => rfl | 8, _ => rfl | 9, _ => rfl | 10, _ => rfl | 11, _ => rfl | _ + 12, hj => exact absurd hj (by omega)) b_1093 b_953 b_27 (n := h + 2 + 23 * i) hlen (by rw [B.2.1]; show cells + 1 ≤ 185; omega) (by rw [B.2.1]; show slots + 12 ≤ 1104; omega) dX4_init_29 rfl ?_
      refine c_dup (np := 33) B.1 dX4_init_32 rfl rfl ?_
      refine c_callN (np := 36) B.1 B.2.2.2.2.2 (n := 0) (As := []) (kX10_init B.1.tr _ (h + 2 + 23 * i) hlen) b_956 t_1095 b_955 b_27 rfl (by decide +kernel) rfl (by rw [B.2.1]; exact (Nat.le_of_ble_eq_true rfl)) (by rw [B.2.1]; exact (Nat.le_of_ble_eq_true rfl)) (Nat.le_of_ble_eq_true rfl) dX4_init_33 (by rw [B.2.1]; show cells + 1 + 22 ≤ 185; omega) (by rw [B.2.1]; show slots + 12 + 125 ≤ 1104; omega) rfl ?_
      refine GoC.eq (app_mid _ _ _ _) ?_
      refine c_astq (np := 37) B.1 (h + (1 + 0)) (h + 2 + 23 * i) 11 (t0 := 4) (r := (RX10, TX10, 12)) ((at_mid1 hh 0 _ _).trans rfl) rfl (vs := [.ref (xb (fX K) + (h + 2 + 23 * i + 1)), .ref (xb (fX K) + (h + 2 + 23 * i + 12)), .ref (xb (fX K) + (h + 2 + 23 * i + 21)), .int 0, .int 1, .int 0, .int 1000, .int 0, .int 0, .int 0, .int 0, .int 0]) ?_ rfl (vp_in_nI (by omega) (by decide)) dX4_init_36 rfl ?_
      · rw [← app_mid, List.getElem?_append_right (by rw [hlen]; exact Nat.le_refl _), hlen, Nat.sub_self]
        rfl
      rw [nI_clamp (by omega), rgF_up (fX K) (h + 2) i]
      refine GoC.eq ((set_mid1 hh 0 _ _ _).trans rfl) ?_
      refine c_iinc (v := nI (i + 1)) (lv' := [some (.ref (xb (fX K) + h)), some (.int (nI (i + 1)))]) (np := 40) B.1 dX4_init_37 rfl (nI_1 i) (by decide) rfl rfl rfl ?_
      refine c_goto (tgt := 15) B.1 dX4_init_40 (by decide) ?_
      refine GoC.eq ?_ (ih (i + 1) (cells + 1 + 22) (slots + 12 + 125) (by omega) (by omega) (by omega))
      show pre ++ (.inr (6, [.ref (xb (fX K) + (h + 1)), .int 0, .int 0]) :: (.inl (xct (fX K) 4, (8, .inr (.inr (.inr (.inr (rgF (fX K) (h + 2) (i + 1))))))) :: (mkStocks (fX K) (h + 2) i ++ mkStock (fX K) (h + 2 + 23 * i)))) = _
      rfl
  refine c_aload_n (np := 1) B.1 dX4_init_0 rfl rfl ?_
  refine c_objInit (np := 4) B.1 b_1092 b_88 b_89 (by rw [B.2.1]; exact (Nat.le_of_ble_eq_true rfl)) (by rw [B.2.1]; exact (Nat.le_of_ble_eq_true rfl)) dX4_init_1 rfl ?_
  refine c_aload_n (np := 5) B.1 dX4_init_4 rfl rfl ?_
  refine c_bipush (v := 8) (np := 7) B.1 dX4_init_5 (by decide) rfl ?_
  refine c_newq (np := 10) B.1 4 (C := "YarnMill$Stock") rfl b_1093 B.2.2.2.2.2.1 (N := 8) (by decide) (by decide) (Nat.le_of_ble_eq_true rfl) (n := h + 1) (by rw [List.length_append, List.length_cons, hh]; rfl) (by rw [B.2.1]; exact (Nat.le_of_ble_eq_true rfl)) (by rw [B.2.1]; exact (Nat.le_of_ble_eq_true rfl)) dX4_init_7 rfl ?_
  refine GoC.eq (app_mid _ _ _ _) ?_
  refine c_putF (np := 13) B.1 B.2.2.2.2.1 h (ci := 6) (fs := [.null, .int 0, .int 0]) (at_mid hh _ _) (C := "YarnMill$History") (T := TX4) (N := 3) rfl inX4 tyX4 tyX4_ok nmX4 0 (by decide) b_1096 rfl rfl (v := .ref (xb (fX K) + (h + 1))) (ty := .array (.object "YarnMill$Stock")) (by decide +kernel) rfl rfl (Nat.le_of_ble_eq_true rfl) dX4_init_10 rfl ?_
  refine GoC.eq (set_mid hh _ (.inr (6, [.ref (xb (fX K) + (h + 1)), .int 0, .int 0])) _) ?_
  refine c_iconst (v := 0) (np := 14) B.1 dX4_init_13 (by decide) rfl ?_
  refine c_istore_n (lv' := [some (.ref (xb (fX K) + h)), some (.int 0)]) (np := 15) B.1 dX4_init_14 (by decide) rfl rfl rfl ?_
  refine GoC.eq ?_ (loop 8 0 1 8 rfl (Nat.le_of_ble_eq_true rfl) (Nat.le_of_ble_eq_true rfl))
  have e0 : (fun _ => none : Nat → Option Nat) = rgF (fX K) (h + 2) 0 := by
    funext j
    unfold rgF
    rw [if_neg (Nat.not_lt_zero j)]
  rw [e0]
  rfl

