/-! THE CONSTRUCTORS -/
theorem at_mid {pre : List va_E} {h : Nat} (hh : pre.length = h) (o : va_E) (r : List va_E) : (pre ++ o :: r)[h]? = some o := by
  subst hh
  simp
theorem set_mid {pre : List va_E} {h : Nat} (hh : pre.length = h) (o o' : va_E) (r : List va_E) : (pre ++ o :: r).set h o' = pre ++ o' :: r := by
  subst hh
  simp
theorem at_mid1 {pre : List va_E} {h : Nat} (hh : pre.length = h) (j : Nat) (o : va_E) (r : List va_E) : (pre ++ o :: r)[h + (1 + j)]? = r[j]? := by
  subst hh
  rw [List.getElem?_append_right (by omega), show pre.length + (1 + j) - pre.length = j + 1 by omega]
  rfl
theorem set_mid1 {pre : List va_E} {h : Nat} (hh : pre.length = h) (j : Nat) (o e : va_E) (r : List va_E) : (pre ++ o :: r).set (h + (1 + j)) e = pre ++ o :: (r.set j e) := by
  subst hh
  rw [List.set_append_right _ _ (by omega), show pre.length + (1 + j) - pre.length = j + 1 by omega]
  rfl
theorem app_mid (pre r s : List va_E) (o : va_E) : (pre ++ o :: r) ++ s = pre ++ o :: (r ++ s) := by simp
def mkRow (x : Ctx) (cap h : Nat) : List va_E := .inr (8, [.ref (xb x + (h + 1)), .int 0]) :: ([] ++ [.inl (xct x 0, (cap, .inl (fun _ => 0)))])
theorem mkRow_len (x : Ctx) (cap h : Nat) : (mkRow x cap h).length = 2 := rfl
theorem b_114 : Cond.instanceMethod Lib.objectInit ∈ lw_good := bB 114 (by decide +kernel) (by decide +kernel)
theorem b_115 : Cond.code Lib.objectInit ⟨#[0xb1]⟩ 1 none ∈ lw_good := bB 115 (by decide +kernel) (by decide +kernel)
theorem b_117 : Cond.instantiable "YarnMill$Stock" 12 ∈ lw_good := bB 117 (by decide +kernel) (by decide +kernel)
theorem b_119 : Cond.instanceMethod yX10_init ∈ lw_good := bB 119 (by decide +kernel) (by decide +kernel)
theorem b_120 : Cond.code yX10_init cX10_init 1 none ∈ lw_good := bB 120 (by decide +kernel) (by decide +kernel)
theorem b_121 : Cond.methodLink "YarnMill$Stock" 3 Lib.objectInit ∈ lw_good := bB 121 (by decide +kernel) (by decide +kernel)
theorem b_122 : Cond.classLink "YarnMill$Stock" 9 "YarnMill$Bales" ∈ lw_good := bB 122 (by decide +kernel) (by decide +kernel)
theorem b_123 : Cond.instantiable "YarnMill$Bales" 6 ∈ lw_good := bB 123 (by decide +kernel) (by decide +kernel)
theorem t_124 : Cond.methodLinkNest "YarnMill$Stock" 11 yX1_init "YarnMill" ∈ lw_tbl := List.mem_of_getElem? (i := 124) (by decide +kernel)
theorem b_125 : Cond.instanceMethod yX1_init ∈ lw_good := bB 125 (by decide +kernel) (by decide +kernel)
theorem b_126 : Cond.code yX1_init cX1_init 1 none ∈ lw_good := bB 126 (by decide +kernel) (by decide +kernel)
theorem b_127 : Cond.methodLink "YarnMill$Bales" 3 Lib.objectInit ∈ lw_good := bB 127 (by decide +kernel) (by decide +kernel)
theorem b_128 : Cond.classLink "YarnMill$Bales" 9 "YarnMill$Row" ∈ lw_good := bB 128 (by decide +kernel) (by decide +kernel)
theorem b_129 : Cond.instantiable "YarnMill$Row" 2 ∈ lw_good := bB 129 (by decide +kernel) (by decide +kernel)
theorem b_130 : Cond.methodLink "YarnMill$Bales" 11 yX7_init ∈ lw_good := bB 130 (by decide +kernel) (by decide +kernel)
theorem b_131 : Cond.instanceMethod yX7_init ∈ lw_good := bB 131 (by decide +kernel) (by decide +kernel)
theorem b_132 : Cond.code yX7_init cX7_init 2 none ∈ lw_good := bB 132 (by decide +kernel) (by decide +kernel)
theorem b_133 : Cond.methodLink "YarnMill$Row" 3 Lib.objectInit ∈ lw_good := bB 133 (by decide +kernel) (by decide +kernel)
theorem b_134 : Cond.methodLink "YarnMill$Row" 9 Lib.Math.max.name ∈ lw_good := bB 134 (by decide +kernel) (by decide +kernel)
theorem b_144 : Cond.arrayClass .int ∈ lw_good := bB 144 (by decide +kernel) (by decide +kernel)
theorem b_173 : Cond.classLink "YarnMill$Stock" 18 "YarnMill$Orders" ∈ lw_good := bB 173 (by decide +kernel) (by decide +kernel)
theorem b_174 : Cond.instantiable "YarnMill$Orders" 5 ∈ lw_good := bB 174 (by decide +kernel) (by decide +kernel)
theorem t_175 : Cond.methodLinkNest "YarnMill$Stock" 20 yX5_init "YarnMill" ∈ lw_tbl := List.mem_of_getElem? (i := 175) (by decide +kernel)
theorem b_176 : Cond.instanceMethod yX5_init ∈ lw_good := bB 176 (by decide +kernel) (by decide +kernel)
theorem b_177 : Cond.code yX5_init cX5_init 1 none ∈ lw_good := bB 177 (by decide +kernel) (by decide +kernel)
theorem b_178 : Cond.methodLink "YarnMill$Orders" 3 Lib.objectInit ∈ lw_good := bB 178 (by decide +kernel) (by decide +kernel)
theorem b_179 : Cond.classLink "YarnMill$Orders" 9 "YarnMill$Row" ∈ lw_good := bB 179 (by decide +kernel) (by decide +kernel)
theorem b_180 : Cond.methodLink "YarnMill$Orders" 11 yX7_init ∈ lw_good := bB 180 (by decide +kernel) (by decide +kernel)
theorem b_206 : Cond.classLink "YarnMill$Stock" 25 "YarnMill$Row" ∈ lw_good := bB 206 (by decide +kernel) (by decide +kernel)
theorem b_207 : Cond.methodLink "YarnMill$Stock" 27 yX7_init ∈ lw_good := bB 207 (by decide +kernel) (by decide +kernel)
theorem b_260 : Cond.methodLink "YarnMill$History" 3 Lib.objectInit ∈ lw_good := bB 260 (by decide +kernel) (by decide +kernel)
theorem b_261 : Cond.classLink "YarnMill$History" 9 "YarnMill$Stock" ∈ lw_good := bB 261 (by decide +kernel) (by decide +kernel)
theorem t_263 : Cond.methodLinkNest "YarnMill$History" 17 yX10_init "YarnMill" ∈ lw_tbl := List.mem_of_getElem? (i := 263) (by decide +kernel)
theorem b_279 : Cond.methodLink "YarnMill$BlendFinder" 3 Lib.objectInit ∈ lw_good := bB 279 (by decide +kernel) (by decide +kernel)
theorem b_304 : Cond.methodLink "YarnMill$TimeFinder" 3 Lib.objectInit ∈ lw_good := bB 304 (by decide +kernel) (by decide +kernel)
theorem b_305 : Cond.classLink "YarnMill$TimeFinder" 18 "YarnMill$Row" ∈ lw_good := bB 305 (by decide +kernel) (by decide +kernel)
theorem b_306 : Cond.methodLink "YarnMill$TimeFinder" 20 yX7_init ∈ lw_good := bB 306 (by decide +kernel) (by decide +kernel)
theorem b_325 : Cond.methodLink "YarnMill$SpliceFinder" 3 Lib.objectInit ∈ lw_good := bB 325 (by decide +kernel) (by decide +kernel)
theorem b_340 : Cond.methodLink "YarnMill$Script" 3 Lib.objectInit ∈ lw_good := bB 340 (by decide +kernel) (by decide +kernel)
theorem b_341 : Cond.classLink "YarnMill$Script" 9 "java/lang/StringBuilder" ∈ lw_good := bB 341 (by decide +kernel) (by decide +kernel)
theorem b_342 : Cond.instantiable "java/lang/StringBuilder" 4 ∈ lw_good := bB 342 (by decide +kernel) (by decide +kernel)
theorem b_343 : Cond.methodLink "YarnMill$Script" 11 yJ4_init_da8c8 ∈ lw_good := bB 343 (by decide +kernel) (by decide +kernel)
theorem b_344 : Cond.instanceMethod yJ4_init_da8c8 ∈ lw_good := bB 344 (by decide +kernel) (by decide +kernel)
theorem b_345 : Cond.code yJ4_init_da8c8 cJ4_init_da8c8 1 none ∈ lw_good := bB 345 (by decide +kernel) (by decide +kernel)
theorem b_346 : Cond.methodLink "java/lang/StringBuilder" 1 yJ5_init_d00df ∈ lw_good := bB 346 (by decide +kernel) (by decide +kernel)
theorem b_347 : Cond.instanceMethod yJ5_init_d00df ∈ lw_good := bB 347 (by decide +kernel) (by decide +kernel)
theorem b_348 : Cond.code yJ5_init_d00df cJ5_init_d00df 2 none ∈ lw_good := bB 348 (by decide +kernel) (by decide +kernel)
theorem b_349 : Cond.methodLink "java/lang/AbstractStringBuilder" 3 Lib.objectInit ∈ lw_good := bB 349 (by decide +kernel) (by decide +kernel)
theorem b_374 : Cond.classLink "YarnMill$Script" 18 "YarnMill$Command" ∈ lw_good := bB 374 (by decide +kernel) (by decide +kernel)
theorem b_1749 : Cond.methodLink "YarnMillModel" 3 Lib.objectInit ∈ lw_good := bB 1749 (by decide +kernel) (by decide +kernel)
set_option maxRecDepth 20000 in
set_option maxHeartbeats 4000000 in
theorem kX7_init {l : Launch} {x : Ctx} (hl : l.stackTraces = false) (pre : List va_E) (h : Nat) (hh : pre.length = h) (cap : Nat) (hcap : cap ≤ 2000) : MetR l x yX7_init cX7_init 2 1 30 1 cap [.ref (xb x + h), .int (nI cap)] (pre ++ [.inr (8, [.null, .int 0])]) (pre ++ mkRow x cap h) := by
  refine MetR.of hl (by decide) rfl (Nat.le_of_ble_eq_true rfl) [some (.ref (xb x + h)), some (.int (nI cap))] rfl (fun K B hx _ => ?_)
  subst hx
  refine c_aload_n (np := 1) B.1 dX7_init_0 rfl rfl ?_
  refine c_objInit (np := 4) B.1 b_133 b_114 b_115 (by rw [B.2.1]; exact (Nat.le_of_ble_eq_true rfl)) (by rw [B.2.1]; exact (Nat.le_of_ble_eq_true rfl)) dX7_init_1 rfl ?_
  refine c_aload_n (np := 5) B.1 dX7_init_4 rfl rfl ?_
  refine c_iload_n (np := 6) B.1 dX7_init_5 rfl rfl ?_
  refine c_iconst (v := 0) (np := 7) B.1 dX7_init_6 (by decide) rfl ?_
  refine c_mmax (np := 10) B.1 b_134 b_135 b_74 b_136 (by rw [B.2.1]; exact (Nat.le_of_ble_eq_true rfl)) (by rw [B.2.1]; exact (Nat.le_of_ble_eq_true rfl)) (by rw [B.2.1]; exact (Nat.le_of_ble_eq_true rfl)) (by rw [B.2.1]; exact Nat.zero_le _) dX7_init_7 rfl ?_
  rw [if_neg (show ¬ nI cap < 0 from nI_pos (by omega))]
  refine c_newa (np := 12) B.1 0 (atype := .int) (ty := .int) rfl rfl (fun _ => rfl) b_144 (N := cap) (a0 := (cap, .inl (fun _ => 0))) (fun _ => rfl) (nI_clamp (by omega)) (nI_pos (by omega)) (by show cap * 4 ≤ _; omega) (n := h + 1) (by rw [List.length_append, List.length_cons, hh]; rfl) (by rw [B.2.1]; exact (Nat.le_of_ble_eq_true rfl)) (by rw [B.2.1]; exact Nat.le_of_eq (Nat.zero_add cap)) dX7_init_10 rfl ?_
  refine GoC.eq (app_mid _ _ _ _) ?_
  refine c_putF (np := 15) B.1 B.2.2.2.2.1 h (ci := 8) (fs := [.null, .int 0]) (at_mid hh _ _) (C := "YarnMill$Row") (T := TX7) (N := 2) rfl inX7 tyX7 tyX7_ok nmX7 0 (by decide) b_137 rfl rfl (v := .ref (xb (fX K) + (h + 1))) (ty := (.array .int)) (by decide +kernel) rfl rfl (Nat.le_of_ble_eq_true rfl) dX7_init_12 rfl ?_
  refine GoC.eq (set_mid hh _ (.inr (8, [.ref (xb (fX K) + (h + 1)), .int 0])) _) ?_
  exact c_vret B (Nat.le_of_ble_eq_true rfl) (Nat.le_of_eq (Nat.zero_add cap)) dX7_init_15 rfl
def mkBales (x : Ctx) (h : Nat) : List va_E := .inr (4, [.ref (xb x + (h + 1)), .ref (xb x + (h + 3)), .ref (xb x + (h + 5)), .ref (xb x + (h + 7)), .ref (xb x + (h + 9)), .int 0]) :: ((((([] ++ mkRow x 10 (h + 1)) ++ mkRow x 10 (h + 3)) ++ mkRow x 10 (h + 5)) ++ mkRow x 10 (h + 7)) ++ mkRow x 10 (h + 9))
theorem mkBales_len (x : Ctx) (h : Nat) : (mkBales x h).length = 11 := rfl
set_option maxRecDepth 20000 in
set_option maxHeartbeats 4000000 in
theorem kX1_init {l : Launch} {x : Ctx} (hl : l.stackTraces = false) (pre : List va_E) (h : Nat) (hh : pre.length = h) : MetR l x yX1_init cX1_init 1 2 51 10 60 [.ref (xb x + h)] (pre ++ [.inr (4, [.null, .null, .null, .null, .null, .int 0])]) (pre ++ mkBales x h) := by
  refine MetR.of hl (by decide) rfl (Nat.le_of_ble_eq_true rfl) [some (.ref (xb x + h))] rfl (fun K B hx _ => ?_)
  subst hx
  refine c_aload_n (np := 1) B.1 dX1_init_0 rfl rfl ?_
  refine c_objInit (np := 4) B.1 b_127 b_114 b_115 (by rw [B.2.1]; exact (Nat.le_of_ble_eq_true rfl)) (by rw [B.2.1]; exact (Nat.le_of_ble_eq_true rfl)) dX1_init_1 rfl ?_
  refine c_aload_n (np := 5) B.1 dX1_init_4 rfl rfl ?_
  refine c_new (np := 8) B.1 (ci := 8) (C := "YarnMill$Row") (T := TX7) (N := 2) rfl (fs := [.null, .int 0]) inX7 tyX7 tyX7_ok (by intro j hj; match j, hj with | 0, _ => rfl | 1, _ => rfl | _ + 2, hj => exact absurd hj (by omega)) b_128 b_129 b_73 (n := h + 1) (by rw [List.length_append, List.length_cons, hh]; rfl) (by rw [B.2.1]; exact (Nat.le_of_ble_eq_true rfl)) (by rw [B.2.1]; exact (Nat.le_of_ble_eq_true rfl)) dX1_init_5 rfl ?_
  refine c_dup (np := 9) B.1 dX1_init_8 rfl rfl ?_
  refine c_bipush (v := 10) (np := 11) B.1 dX1_init_9 (by decide) rfl ?_
  refine (show GoC K _ _ _ 11 _ (.int (nI 10) :: _) from ?_)
  refine c_call (np := 14) B.1 B.2.2.2.2.2 (n := 1) (As := [.int (nI 10)]) (kX7_init B.1.tr (pre ++ (.inr (4, [.null, .null, .null, .null, .null, .int 0]) :: [])) (h + 1) (by rw [List.length_append, List.length_cons, hh]; rfl) 10 (by decide)) b_132 b_130 b_131 b_73 rfl (by decide +kernel) rfl (by rw [B.2.1]; exact (Nat.le_of_ble_eq_true rfl)) (by rw [B.2.1]; exact (Nat.le_of_ble_eq_true rfl)) (Nat.le_of_ble_eq_true rfl) dX1_init_11 (by rw [B.2.1]; exact (Nat.le_of_ble_eq_true rfl)) (by rw [B.2.1]; exact (Nat.le_of_ble_eq_true rfl)) rfl ?_
  refine GoC.eq (app_mid _ _ _ _) ?_
  refine c_putF (np := 17) B.1 B.2.2.2.2.1 h (ci := 4) (fs := [.null, .null, .null, .null, .null, .int 0]) (at_mid hh _ _) (C := "YarnMill$Bales") (T := TX1) (N := 6) rfl inX1 tyX1 tyX1_ok nmX1 0 (by decide) b_145 rfl rfl (v := .ref (xb (fX K) + (h + 1))) (ty := (.object "YarnMill$Row")) (by decide +kernel) rfl rfl (Nat.le_of_ble_eq_true rfl) dX1_init_14 rfl ?_
  refine GoC.eq (set_mid hh _ (.inr (4, [.ref (xb (fX K) + (h + 1)), .null, .null, .null, .null, .int 0])) _) ?_
  refine c_aload_n (np := 18) B.1 dX1_init_17 rfl rfl ?_
  refine c_new (np := 21) B.1 (ci := 8) (C := "YarnMill$Row") (T := TX7) (N := 2) rfl (fs := [.null, .int 0]) inX7 tyX7 tyX7_ok (by intro j hj; match j, hj with | 0, _ => rfl | 1, _ => rfl | _ + 2, hj => exact absurd hj (by omega)) b_128 b_129 b_73 (n := h + 3) (by rw [List.length_append, List.length_cons, hh]; rfl) (by rw [B.2.1]; exact (Nat.le_of_ble_eq_true rfl)) (by rw [B.2.1]; exact (Nat.le_of_ble_eq_true rfl)) dX1_init_18 rfl ?_
  refine c_dup (np := 22) B.1 dX1_init_21 rfl rfl ?_
  refine c_bipush (v := 10) (np := 24) B.1 dX1_init_22 (by decide) rfl ?_
  refine (show GoC K _ _ _ 24 _ (.int (nI 10) :: _) from ?_)
  refine c_call (np := 27) B.1 B.2.2.2.2.2 (n := 1) (As := [.int (nI 10)]) (kX7_init B.1.tr (pre ++ (.inr (4, [.ref (xb (fX K) + (h + 1)), .null, .null, .null, .null, .int 0]) :: ([] ++ mkRow (fX K) 10 (h + 1)))) (h + 3) (by rw [List.length_append, List.length_cons, hh]; rfl) 10 (by decide)) b_132 b_130 b_131 b_73 rfl (by decide +kernel) rfl (by rw [B.2.1]; exact (Nat.le_of_ble_eq_true rfl)) (by rw [B.2.1]; exact (Nat.le_of_ble_eq_true rfl)) (Nat.le_of_ble_eq_true rfl) dX1_init_24 (by rw [B.2.1]; exact (Nat.le_of_ble_eq_true rfl)) (by rw [B.2.1]; exact (Nat.le_of_ble_eq_true rfl)) rfl ?_
  refine GoC.eq (app_mid _ _ _ _) ?_
  refine c_putF (np := 30) B.1 B.2.2.2.2.1 h (ci := 4) (fs := [.ref (xb (fX K) + (h + 1)), .null, .null, .null, .null, .int 0]) (at_mid hh _ _) (C := "YarnMill$Bales") (T := TX1) (N := 6) rfl inX1 tyX1 tyX1_ok nmX1 1 (by decide) b_149 rfl rfl (v := .ref (xb (fX K) + (h + 3))) (ty := (.object "YarnMill$Row")) (by decide +kernel) rfl rfl (Nat.le_of_ble_eq_true rfl) dX1_init_27 rfl ?_
  refine GoC.eq (set_mid hh _ (.inr (4, [.ref (xb (fX K) + (h + 1)), .ref (xb (fX K) + (h + 3)), .null, .null, .null, .int 0])) _) ?_
  refine c_aload_n (np := 31) B.1 dX1_init_30 rfl rfl ?_
  refine c_new (np := 34) B.1 (ci := 8) (C := "YarnMill$Row") (T := TX7) (N := 2) rfl (fs := [.null, .int 0]) inX7 tyX7 tyX7_ok (by intro j hj; match j, hj with | 0, _ => rfl | 1, _ => rfl | _ + 2, hj => exact absurd hj (by omega)) b_128 b_129 b_73 (n := h + 5) (by rw [List.length_append, List.length_cons, hh]; rfl) (by rw [B.2.1]; exact (Nat.le_of_ble_eq_true rfl)) (by rw [B.2.1]; exact (Nat.le_of_ble_eq_true rfl)) dX1_init_31 rfl ?_
  refine c_dup (np := 35) B.1 dX1_init_34 rfl rfl ?_
  refine c_bipush (v := 10) (np := 37) B.1 dX1_init_35 (by decide) rfl ?_
  refine (show GoC K _ _ _ 37 _ (.int (nI 10) :: _) from ?_)
  refine c_call (np := 40) B.1 B.2.2.2.2.2 (n := 1) (As := [.int (nI 10)]) (kX7_init B.1.tr (pre ++ (.inr (4, [.ref (xb (fX K) + (h + 1)), .ref (xb (fX K) + (h + 3)), .null, .null, .null, .int 0]) :: (([] ++ mkRow (fX K) 10 (h + 1)) ++ mkRow (fX K) 10 (h + 3)))) (h + 5) (by rw [List.length_append, List.length_cons, hh]; rfl) 10 (by decide)) b_132 b_130 b_131 b_73 rfl (by decide +kernel) rfl (by rw [B.2.1]; exact (Nat.le_of_ble_eq_true rfl)) (by rw [B.2.1]; exact (Nat.le_of_ble_eq_true rfl)) (Nat.le_of_ble_eq_true rfl) dX1_init_37 (by rw [B.2.1]; exact (Nat.le_of_ble_eq_true rfl)) (by rw [B.2.1]; exact (Nat.le_of_ble_eq_true rfl)) rfl ?_
  refine GoC.eq (app_mid _ _ _ _) ?_
  refine c_putF (np := 43) B.1 B.2.2.2.2.1 h (ci := 4) (fs := [.ref (xb (fX K) + (h + 1)), .ref (xb (fX K) + (h + 3)), .null, .null, .null, .int 0]) (at_mid hh _ _) (C := "YarnMill$Bales") (T := TX1) (N := 6) rfl inX1 tyX1 tyX1_ok nmX1 2 (by decide) b_152 rfl rfl (v := .ref (xb (fX K) + (h + 5))) (ty := (.object "YarnMill$Row")) (by decide +kernel) rfl rfl (Nat.le_of_ble_eq_true rfl) dX1_init_40 rfl ?_
  refine GoC.eq (set_mid hh _ (.inr (4, [.ref (xb (fX K) + (h + 1)), .ref (xb (fX K) + (h + 3)), .ref (xb (fX K) + (h + 5)), .null, .null, .int 0])) _) ?_
  refine c_aload_n (np := 44) B.1 dX1_init_43 rfl rfl ?_
  refine c_new (np := 47) B.1 (ci := 8) (C := "YarnMill$Row") (T := TX7) (N := 2) rfl (fs := [.null, .int 0]) inX7 tyX7 tyX7_ok (by intro j hj; match j, hj with | 0, _ => rfl | 1, _ => rfl | _ + 2, hj => exact absurd hj (by omega)) b_128 b_129 b_73 (n := h + 7) (by rw [List.length_append, List.length_cons, hh]; rfl) (by rw [B.2.1]; exact (Nat.le_of_ble_eq_true rfl)) (by rw [B.2.1]; exact (Nat.le_of_ble_eq_true rfl)) dX1_init_44 rfl ?_
  refine c_dup (np := 48) B.1 dX1_init_47 rfl rfl ?_
  refine c_bipush (v := 10) (np := 50) B.1 dX1_init_48 (by decide) rfl ?_
  refine (show GoC K _ _ _ 50 _ (.int (nI 10) :: _) from ?_)
  refine c_call (np := 53) B.1 B.2.2.2.2.2 (n := 1) (As := [.int (nI 10)]) (kX7_init B.1.tr (pre ++ (.inr (4, [.ref (xb (fX K) + (h + 1)), .ref (xb (fX K) + (h + 3)), .ref (xb (fX K) + (h + 5)), .null, .null, .int 0]) :: ((([] ++ mkRow (fX K) 10 (h + 1)) ++ mkRow (fX K) 10 (h + 3)) ++ mkRow (fX K) 10 (h + 5)))) (h + 7) (by rw [List.length_append, List.length_cons, hh]; rfl) 10 (by decide)) b_132 b_130 b_131 b_73 rfl (by decide +kernel) rfl (by rw [B.2.1]; exact (Nat.le_of_ble_eq_true rfl)) (by rw [B.2.1]; exact (Nat.le_of_ble_eq_true rfl)) (Nat.le_of_ble_eq_true rfl) dX1_init_50 (by rw [B.2.1]; exact (Nat.le_of_ble_eq_true rfl)) (by rw [B.2.1]; exact (Nat.le_of_ble_eq_true rfl)) rfl ?_
  refine GoC.eq (app_mid _ _ _ _) ?_
  refine c_putF (np := 56) B.1 B.2.2.2.2.1 h (ci := 4) (fs := [.ref (xb (fX K) + (h + 1)), .ref (xb (fX K) + (h + 3)), .ref (xb (fX K) + (h + 5)), .null, .null, .int 0]) (at_mid hh _ _) (C := "YarnMill$Bales") (T := TX1) (N := 6) rfl inX1 tyX1 tyX1_ok nmX1 3 (by decide) b_155 rfl rfl (v := .ref (xb (fX K) + (h + 7))) (ty := (.object "YarnMill$Row")) (by decide +kernel) rfl rfl (Nat.le_of_ble_eq_true rfl) dX1_init_53 rfl ?_
  refine GoC.eq (set_mid hh _ (.inr (4, [.ref (xb (fX K) + (h + 1)), .ref (xb (fX K) + (h + 3)), .ref (xb (fX K) + (h + 5)), .ref (xb (fX K) + (h + 7)), .null, .int 0])) _) ?_
  refine c_aload_n (np := 57) B.1 dX1_init_56 rfl rfl ?_
  refine c_new (np := 60) B.1 (ci := 8) (C := "YarnMill$Row") (T := TX7) (N := 2) rfl (fs := [.null, .int 0]) inX7 tyX7 tyX7_ok (by intro j hj; match j, hj with | 0, _ => rfl | 1, _ => rfl | _ + 2, hj => exact absurd hj (by omega)) b_128 b_129 b_73 (n := h + 9) (by rw [List.length_append, List.length_cons, hh]; rfl) (by rw [B.2.1]; exact (Nat.le_of_ble_eq_true rfl)) (by rw [B.2.1]; exact (Nat.le_of_ble_eq_true rfl)) dX1_init_57 rfl ?_
  refine c_dup (np := 61) B.1 dX1_init_60 rfl rfl ?_
  refine c_bipush (v := 10) (np := 63) B.1 dX1_init_61 (by decide) rfl ?_
  refine (show GoC K _ _ _ 63 _ (.int (nI 10) :: _) from ?_)
  refine c_call (np := 66) B.1 B.2.2.2.2.2 (n := 1) (As := [.int (nI 10)]) (kX7_init B.1.tr (pre ++ (.inr (4, [.ref (xb (fX K) + (h + 1)), .ref (xb (fX K) + (h + 3)), .ref (xb (fX K) + (h + 5)), .ref (xb (fX K) + (h + 7)), .null, .int 0]) :: (((([] ++ mkRow (fX K) 10 (h + 1)) ++ mkRow (fX K) 10 (h + 3)) ++ mkRow (fX K) 10 (h + 5)) ++ mkRow (fX K) 10 (h + 7)))) (h + 9) (by rw [List.length_append, List.length_cons, hh]; rfl) 10 (by decide)) b_132 b_130 b_131 b_73 rfl (by decide +kernel) rfl (by rw [B.2.1]; exact (Nat.le_of_ble_eq_true rfl)) (by rw [B.2.1]; exact (Nat.le_of_ble_eq_true rfl)) (Nat.le_of_ble_eq_true rfl) dX1_init_63 (by rw [B.2.1]; exact (Nat.le_of_ble_eq_true rfl)) (by rw [B.2.1]; exact (Nat.le_of_ble_eq_true rfl)) rfl ?_
  refine GoC.eq (app_mid _ _ _ _) ?_
  refine c_putF (np := 69) B.1 B.2.2.2.2.1 h (ci := 4) (fs := [.ref (xb (fX K) + (h + 1)), .ref (xb (fX K) + (h + 3)), .ref (xb (fX K) + (h + 5)), .ref (xb (fX K) + (h + 7)), .null, .int 0]) (at_mid hh _ _) (C := "YarnMill$Bales") (T := TX1) (N := 6) rfl inX1 tyX1 tyX1_ok nmX1 4 (by decide) b_157 rfl rfl (v := .ref (xb (fX K) + (h + 9))) (ty := (.object "YarnMill$Row")) (by decide +kernel) rfl rfl (Nat.le_of_ble_eq_true rfl) dX1_init_66 rfl ?_
  refine GoC.eq (set_mid hh _ (.inr (4, [.ref (xb (fX K) + (h + 1)), .ref (xb (fX K) + (h + 3)), .ref (xb (fX K) + (h + 5)), .ref (xb (fX K) + (h + 7)), .ref (xb (fX K) + (h + 9)), .int 0])) _) ?_
  exact c_vret B (Nat.le_of_ble_eq_true rfl) (Nat.le_of_ble_eq_true rfl) dX1_init_69 rfl
def mkOrders (x : Ctx) (h : Nat) : List va_E := .inr (7, [.ref (xb x + (h + 1)), .ref (xb x + (h + 3)), .ref (xb x + (h + 5)), .ref (xb x + (h + 7)), .int 0]) :: (((([] ++ mkRow x 8 (h + 1)) ++ mkRow x 8 (h + 3)) ++ mkRow x 8 (h + 5)) ++ mkRow x 8 (h + 7))
theorem mkOrders_len (x : Ctx) (h : Nat) : (mkOrders x h).length = 9 := rfl
set_option maxRecDepth 20000 in
set_option maxHeartbeats 4000000 in
theorem kX5_init {l : Launch} {x : Ctx} (hl : l.stackTraces = false) (pre : List va_E) (h : Nat) (hh : pre.length = h) : MetR l x yX5_init cX5_init 1 2 51 8 40 [.ref (xb x + h)] (pre ++ [.inr (7, [.null, .null, .null, .null, .int 0])]) (pre ++ mkOrders x h) := by
  refine MetR.of hl (by decide) rfl (Nat.le_of_ble_eq_true rfl) [some (.ref (xb x + h))] rfl (fun K B hx _ => ?_)
  subst hx
  refine c_aload_n (np := 1) B.1 dX5_init_0 rfl rfl ?_
  refine c_objInit (np := 4) B.1 b_178 b_114 b_115 (by rw [B.2.1]; exact (Nat.le_of_ble_eq_true rfl)) (by rw [B.2.1]; exact (Nat.le_of_ble_eq_true rfl)) dX5_init_1 rfl ?_
  refine c_aload_n (np := 5) B.1 dX5_init_4 rfl rfl ?_
  refine c_new (np := 8) B.1 (ci := 8) (C := "YarnMill$Row") (T := TX7) (N := 2) rfl (fs := [.null, .int 0]) inX7 tyX7 tyX7_ok (by intro j hj; match j, hj with | 0, _ => rfl | 1, _ => rfl | _ + 2, hj => exact absurd hj (by omega)) b_179 b_129 b_73 (n := h + 1) (by rw [List.length_append, List.length_cons, hh]; rfl) (by rw [B.2.1]; exact (Nat.le_of_ble_eq_true rfl)) (by rw [B.2.1]; exact (Nat.le_of_ble_eq_true rfl)) dX5_init_5 rfl ?_
  refine c_dup (np := 9) B.1 dX5_init_8 rfl rfl ?_
  refine c_bipush (v := 8) (np := 11) B.1 dX5_init_9 (by decide) rfl ?_
  refine (show GoC K _ _ _ 11 _ (.int (nI 8) :: _) from ?_)
  refine c_call (np := 14) B.1 B.2.2.2.2.2 (n := 1) (As := [.int (nI 8)]) (kX7_init B.1.tr (pre ++ (.inr (7, [.null, .null, .null, .null, .int 0]) :: [])) (h + 1) (by rw [List.length_append, List.length_cons, hh]; rfl) 8 (by decide)) b_132 b_180 b_131 b_73 rfl (by decide +kernel) rfl (by rw [B.2.1]; exact (Nat.le_of_ble_eq_true rfl)) (by rw [B.2.1]; exact (Nat.le_of_ble_eq_true rfl)) (Nat.le_of_ble_eq_true rfl) dX5_init_11 (by rw [B.2.1]; exact (Nat.le_of_ble_eq_true rfl)) (by rw [B.2.1]; exact (Nat.le_of_ble_eq_true rfl)) rfl ?_
  refine GoC.eq (app_mid _ _ _ _) ?_
  refine c_putF (np := 17) B.1 B.2.2.2.2.1 h (ci := 7) (fs := [.null, .null, .null, .null, .int 0]) (at_mid hh _ _) (C := "YarnMill$Orders") (T := TX5) (N := 5) rfl inX5 tyX5 tyX5_ok nmX5 0 (by decide) b_181 rfl rfl (v := .ref (xb (fX K) + (h + 1))) (ty := (.object "YarnMill$Row")) (by decide +kernel) rfl rfl (Nat.le_of_ble_eq_true rfl) dX5_init_14 rfl ?_
  refine GoC.eq (set_mid hh _ (.inr (7, [.ref (xb (fX K) + (h + 1)), .null, .null, .null, .int 0])) _) ?_
  refine c_aload_n (np := 18) B.1 dX5_init_17 rfl rfl ?_
  refine c_new (np := 21) B.1 (ci := 8) (C := "YarnMill$Row") (T := TX7) (N := 2) rfl (fs := [.null, .int 0]) inX7 tyX7 tyX7_ok (by intro j hj; match j, hj with | 0, _ => rfl | 1, _ => rfl | _ + 2, hj => exact absurd hj (by omega)) b_179 b_129 b_73 (n := h + 3) (by rw [List.length_append, List.length_cons, hh]; rfl) (by rw [B.2.1]; exact (Nat.le_of_ble_eq_true rfl)) (by rw [B.2.1]; exact (Nat.le_of_ble_eq_true rfl)) dX5_init_18 rfl ?_
  refine c_dup (np := 22) B.1 dX5_init_21 rfl rfl ?_
  refine c_bipush (v := 8) (np := 24) B.1 dX5_init_22 (by decide) rfl ?_
  refine (show GoC K _ _ _ 24 _ (.int (nI 8) :: _) from ?_)
  refine c_call (np := 27) B.1 B.2.2.2.2.2 (n := 1) (As := [.int (nI 8)]) (kX7_init B.1.tr (pre ++ (.inr (7, [.ref (xb (fX K) + (h + 1)), .null, .null, .null, .int 0]) :: ([] ++ mkRow (fX K) 8 (h + 1)))) (h + 3) (by rw [List.length_append, List.length_cons, hh]; rfl) 8 (by decide)) b_132 b_180 b_131 b_73 rfl (by decide +kernel) rfl (by rw [B.2.1]; exact (Nat.le_of_ble_eq_true rfl)) (by rw [B.2.1]; exact (Nat.le_of_ble_eq_true rfl)) (Nat.le_of_ble_eq_true rfl) dX5_init_24 (by rw [B.2.1]; exact (Nat.le_of_ble_eq_true rfl)) (by rw [B.2.1]; exact (Nat.le_of_ble_eq_true rfl)) rfl ?_
  refine GoC.eq (app_mid _ _ _ _) ?_
  refine c_putF (np := 30) B.1 B.2.2.2.2.1 h (ci := 7) (fs := [.ref (xb (fX K) + (h + 1)), .null, .null, .null, .int 0]) (at_mid hh _ _) (C := "YarnMill$Orders") (T := TX5) (N := 5) rfl inX5 tyX5 tyX5_ok nmX5 1 (by decide) b_185 rfl rfl (v := .ref (xb (fX K) + (h + 3))) (ty := (.object "YarnMill$Row")) (by decide +kernel) rfl rfl (Nat.le_of_ble_eq_true rfl) dX5_init_27 rfl ?_
  refine GoC.eq (set_mid hh _ (.inr (7, [.ref (xb (fX K) + (h + 1)), .ref (xb (fX K) + (h + 3)), .null, .null, .int 0])) _) ?_
  refine c_aload_n (np := 31) B.1 dX5_init_30 rfl rfl ?_
  refine c_new (np := 34) B.1 (ci := 8) (C := "YarnMill$Row") (T := TX7) (N := 2) rfl (fs := [.null, .int 0]) inX7 tyX7 tyX7_ok (by intro j hj; match j, hj with | 0, _ => rfl | 1, _ => rfl | _ + 2, hj => exact absurd hj (by omega)) b_179 b_129 b_73 (n := h + 5) (by rw [List.length_append, List.length_cons, hh]; rfl) (by rw [B.2.1]; exact (Nat.le_of_ble_eq_true rfl)) (by rw [B.2.1]; exact (Nat.le_of_ble_eq_true rfl)) dX5_init_31 rfl ?_
  refine c_dup (np := 35) B.1 dX5_init_34 rfl rfl ?_
  refine c_bipush (v := 8) (np := 37) B.1 dX5_init_35 (by decide) rfl ?_
  refine (show GoC K _ _ _ 37 _ (.int (nI 8) :: _) from ?_)
  refine c_call (np := 40) B.1 B.2.2.2.2.2 (n := 1) (As := [.int (nI 8)]) (kX7_init B.1.tr (pre ++ (.inr (7, [.ref (xb (fX K) + (h + 1)), .ref (xb (fX K) + (h + 3)), .null, .null, .int 0]) :: (([] ++ mkRow (fX K) 8 (h + 1)) ++ mkRow (fX K) 8 (h + 3)))) (h + 5) (by rw [List.length_append, List.length_cons, hh]; rfl) 8 (by decide)) b_132 b_180 b_131 b_73 rfl (by decide +kernel) rfl (by rw [B.2.1]; exact (Nat.le_of_ble_eq_true rfl)) (by rw [B.2.1]; exact (Nat.le_of_ble_eq_true rfl)) (Nat.le_of_ble_eq_true rfl) dX5_init_37 (by rw [B.2.1]; exact (Nat.le_of_ble_eq_true rfl)) (by rw [B.2.1]; exact (Nat.le_of_ble_eq_true rfl)) rfl ?_
  refine GoC.eq (app_mid _ _ _ _) ?_
  refine c_putF (np := 43) B.1 B.2.2.2.2.1 h (ci := 7) (fs := [.ref (xb (fX K) + (h + 1)), .ref (xb (fX K) + (h + 3)), .null, .null, .int 0]) (at_mid hh _ _) (C := "YarnMill$Orders") (T := TX5) (N := 5) rfl inX5 tyX5 tyX5_ok nmX5 2 (by decide) b_188 rfl rfl (v := .ref (xb (fX K) + (h + 5))) (ty := (.object "YarnMill$Row")) (by decide +kernel) rfl rfl (Nat.le_of_ble_eq_true rfl) dX5_init_40 rfl ?_
  refine GoC.eq (set_mid hh _ (.inr (7, [.ref (xb (fX K) + (h + 1)), .ref (xb (fX K) + (h + 3)), .ref (xb (fX K) + (h + 5)), .null, .int 0])) _) ?_
  refine c_aload_n (np := 44) B.1 dX5_init_43 rfl rfl ?_
  refine c_new (np := 47) B.1 (ci := 8) (C := "YarnMill$Row") (T := TX7) (N := 2) rfl (fs := [.null, .int 0]) inX7 tyX7 tyX7_ok (by intro j hj; match j, hj with | 0, _ => rfl | 1, _ => rfl | _ + 2, hj => exact absurd hj (by omega)) b_179 b_129 b_73 (n := h + 7) (by rw [List.length_append, List.length_cons, hh]; rfl) (by rw [B.2.1]; exact (Nat.le_of_ble_eq_true rfl)) (by rw [B.2.1]; exact (Nat.le_of_ble_eq_true rfl)) dX5_init_44 rfl ?_
  refine c_dup (np := 48) B.1 dX5_init_47 rfl rfl ?_
  refine c_bipush (v := 8) (np := 50) B.1 dX5_init_48 (by decide) rfl ?_
  refine (show GoC K _ _ _ 50 _ (.int (nI 8) :: _) from ?_)
  refine c_call (np := 53) B.1 B.2.2.2.2.2 (n := 1) (As := [.int (nI 8)]) (kX7_init B.1.tr (pre ++ (.inr (7, [.ref (xb (fX K) + (h + 1)), .ref (xb (fX K) + (h + 3)), .ref (xb (fX K) + (h + 5)), .null, .int 0]) :: ((([] ++ mkRow (fX K) 8 (h + 1)) ++ mkRow (fX K) 8 (h + 3)) ++ mkRow (fX K) 8 (h + 5)))) (h + 7) (by rw [List.length_append, List.length_cons, hh]; rfl) 8 (by decide)) b_132 b_180 b_131 b_73 rfl (by decide +kernel) rfl (by rw [B.2.1]; exact (Nat.le_of_ble_eq_true rfl)) (by rw [B.2.1]; exact (Nat.le_of_ble_eq_true rfl)) (Nat.le_of_ble_eq_true rfl) dX5_init_50 (by rw [B.2.1]; exact (Nat.le_of_ble_eq_true rfl)) (by rw [B.2.1]; exact (Nat.le_of_ble_eq_true rfl)) rfl ?_
  refine GoC.eq (app_mid _ _ _ _) ?_
  refine c_putF (np := 56) B.1 B.2.2.2.2.1 h (ci := 7) (fs := [.ref (xb (fX K) + (h + 1)), .ref (xb (fX K) + (h + 3)), .ref (xb (fX K) + (h + 5)), .null, .int 0]) (at_mid hh _ _) (C := "YarnMill$Orders") (T := TX5) (N := 5) rfl inX5 tyX5 tyX5_ok nmX5 3 (by decide) b_190 rfl rfl (v := .ref (xb (fX K) + (h + 7))) (ty := (.object "YarnMill$Row")) (by decide +kernel) rfl rfl (Nat.le_of_ble_eq_true rfl) dX5_init_53 rfl ?_
  refine GoC.eq (set_mid hh _ (.inr (7, [.ref (xb (fX K) + (h + 1)), .ref (xb (fX K) + (h + 3)), .ref (xb (fX K) + (h + 5)), .ref (xb (fX K) + (h + 7)), .int 0])) _) ?_
  exact c_vret B (Nat.le_of_ble_eq_true rfl) (Nat.le_of_ble_eq_true rfl) dX5_init_56 rfl
def mkStock (x : Ctx) (h : Nat) : List va_E := .inr (11, [.ref (xb x + (h + 1)), .ref (xb x + (h + 12)), .ref (xb x + (h + 21)), .int 0, .int 1, .int 0, .int 1000, .int 0, .int 0, .int 0, .int 0, .int 0]) :: ((([] ++ mkBales x (h + 1)) ++ mkOrders x (h + 12)) ++ mkRow x 12 (h + 21))
theorem mkStock_len (x : Ctx) (h : Nat) : (mkStock x h).length = 23 := rfl
set_option maxRecDepth 20000 in
set_option maxHeartbeats 4000000 in
theorem kX10_init {l : Launch} {x : Ctx} (hl : l.stackTraces = false) (pre : List va_E) (h : Nat) (hh : pre.length = h) : MetR l x yX10_init cX10_init 1 3 71 22 125 [.ref (xb x + h)] (pre ++ [.inr (11, [.null, .null, .null, .int 0, .int 0, .int 0, .int 0, .int 0, .int 0, .int 0, .int 0, .int 0])]) (pre ++ mkStock x h) := by
  refine MetR.of hl (by decide) rfl (Nat.le_of_ble_eq_true rfl) [some (.ref (xb x + h))] rfl (fun K B hx _ => ?_)
  subst hx
  refine c_aload_n (np := 1) B.1 dX10_init_0 rfl rfl ?_
  refine c_objInit (np := 4) B.1 b_121 b_114 b_115 (by rw [B.2.1]; exact (Nat.le_of_ble_eq_true rfl)) (by rw [B.2.1]; exact (Nat.le_of_ble_eq_true rfl)) dX10_init_1 rfl ?_
  refine c_aload_n (np := 5) B.1 dX10_init_4 rfl rfl ?_
  refine c_new (np := 8) B.1 (ci := 4) (C := "YarnMill$Bales") (T := TX1) (N := 6) rfl (fs := [.null, .null, .null, .null, .null, .int 0]) inX1 tyX1 tyX1_ok (by intro j hj; match j, hj with | 0, _ => rfl | 1, _ => rfl | 2, _ => rfl | 3, _ => rfl | 4, _ => rfl | 5, _ => rfl | _ + 6, hj => exact absurd hj (by omega)) b_122 b_123 b_72 (n := h + 1) (by rw [List.length_append, List.length_cons, hh]; rfl) (by rw [B.2.1]; exact (Nat.le_of_ble_eq_true rfl)) (by rw [B.2.1]; exact (Nat.le_of_ble_eq_true rfl)) dX10_init_5 rfl ?_
  refine c_dup (np := 9) B.1 dX10_init_8 rfl rfl ?_
  refine c_callN (np := 12) B.1 B.2.2.2.2.2 (n := 0) (As := []) (kX1_init B.1.tr (pre ++ (.inr (11, [.null, .null, .null, .int 0, .int 0, .int 0, .int 0, .int 0, .int 0, .int 0, .int 0, .int 0]) :: [])) (h + 1) (by rw [List.length_append, List.length_cons, hh]; rfl)) b_126 t_124 b_125 b_72 rfl (by decide +kernel) rfl (by rw [B.2.1]; exact (Nat.le_of_ble_eq_true rfl)) (by rw [B.2.1]; exact (Nat.le_of_ble_eq_true rfl)) (Nat.le_of_ble_eq_true rfl) dX10_init_9 (by rw [B.2.1]; exact (Nat.le_of_ble_eq_true rfl)) (by rw [B.2.1]; exact (Nat.le_of_ble_eq_true rfl)) rfl ?_
  refine GoC.eq (app_mid _ _ _ _) ?_
  refine c_putF (np := 15) B.1 B.2.2.2.2.1 h (ci := 11) (fs := [.null, .null, .null, .int 0, .int 0, .int 0, .int 0, .int 0, .int 0, .int 0, .int 0, .int 0]) (at_mid hh _ _) (C := "YarnMill$Stock") (T := TX10) (N := 12) rfl inX10 tyX10 tyX10_ok nmX10 0 (by decide) b_208 rfl rfl (v := .ref (xb (fX K) + (h + 1))) (ty := (.object "YarnMill$Bales")) (by decide +kernel) rfl rfl (Nat.le_of_ble_eq_true rfl) dX10_init_12 rfl ?_
  refine GoC.eq (set_mid hh _ (.inr (11, [.ref (xb (fX K) + (h + 1)), .null, .null, .int 0, .int 0, .int 0, .int 0, .int 0, .int 0, .int 0, .int 0, .int 0])) _) ?_
  refine c_aload_n (np := 16) B.1 dX10_init_15 rfl rfl ?_
  refine c_new (np := 19) B.1 (ci := 7) (C := "YarnMill$Orders") (T := TX5) (N := 5) rfl (fs := [.null, .null, .null, .null, .int 0]) inX5 tyX5 tyX5_ok (by intro j hj; match j, hj with | 0, _ => rfl | 1, _ => rfl | 2, _ => rfl | 3, _ => rfl | 4, _ => rfl | _ + 5, hj => exact absurd hj (by omega)) b_173 b_174 b_75 (n := h + 12) (by rw [List.length_append, List.length_cons, hh]; rfl) (by rw [B.2.1]; exact (Nat.le_of_ble_eq_true rfl)) (by rw [B.2.1]; exact (Nat.le_of_ble_eq_true rfl)) dX10_init_16 rfl ?_
  refine c_dup (np := 20) B.1 dX10_init_19 rfl rfl ?_
  refine c_callN (np := 23) B.1 B.2.2.2.2.2 (n := 0) (As := []) (kX5_init B.1.tr (pre ++ (.inr (11, [.ref (xb (fX K) + (h + 1)), .null, .null, .int 0, .int 0, .int 0, .int 0, .int 0, .int 0, .int 0, .int 0, .int 0]) :: ([] ++ mkBales (fX K) (h + 1)))) (h + 12) (by rw [List.length_append, List.length_cons, hh]; rfl)) b_177 t_175 b_176 b_75 rfl (by decide +kernel) rfl (by rw [B.2.1]; exact (Nat.le_of_ble_eq_true rfl)) (by rw [B.2.1]; exact (Nat.le_of_ble_eq_true rfl)) (Nat.le_of_ble_eq_true rfl) dX10_init_20 (by rw [B.2.1]; exact (Nat.le_of_ble_eq_true rfl)) (by rw [B.2.1]; exact (Nat.le_of_ble_eq_true rfl)) rfl ?_
  refine GoC.eq (app_mid _ _ _ _) ?_
  refine c_putF (np := 26) B.1 B.2.2.2.2.1 h (ci := 11) (fs := [.ref (xb (fX K) + (h + 1)), .null, .null, .int 0, .int 0, .int 0, .int 0, .int 0, .int 0, .int 0, .int 0, .int 0]) (at_mid hh _ _) (C := "YarnMill$Stock") (T := TX10) (N := 12) rfl inX10 tyX10 tyX10_ok nmX10 1 (by decide) b_210 rfl rfl (v := .ref (xb (fX K) + (h + 12))) (ty := (.object "YarnMill$Orders")) (by decide +kernel) rfl rfl (Nat.le_of_ble_eq_true rfl) dX10_init_23 rfl ?_
  refine GoC.eq (set_mid hh _ (.inr (11, [.ref (xb (fX K) + (h + 1)), .ref (xb (fX K) + (h + 12)), .null, .int 0, .int 0, .int 0, .int 0, .int 0, .int 0, .int 0, .int 0, .int 0])) _) ?_
  refine c_aload_n (np := 27) B.1 dX10_init_26 rfl rfl ?_
  refine c_new (np := 30) B.1 (ci := 8) (C := "YarnMill$Row") (T := TX7) (N := 2) rfl (fs := [.null, .int 0]) inX7 tyX7 tyX7_ok (by intro j hj; match j, hj with | 0, _ => rfl | 1, _ => rfl | _ + 2, hj => exact absurd hj (by omega)) b_206 b_129 b_73 (n := h + 21) (by rw [List.length_append, List.length_cons, hh]; rfl) (by rw [B.2.1]; exact (Nat.le_of_ble_eq_true rfl)) (by rw [B.2.1]; exact (Nat.le_of_ble_eq_true rfl)) dX10_init_27 rfl ?_
  refine c_dup (np := 31) B.1 dX10_init_30 rfl rfl ?_
  refine c_bipush (v := 12) (np := 33) B.1 dX10_init_31 (by decide) rfl ?_
  refine (show GoC K _ _ _ 33 _ (.int (nI 12) :: _) from ?_)
  refine c_call (np := 36) B.1 B.2.2.2.2.2 (n := 1) (As := [.int (nI 12)]) (kX7_init B.1.tr (pre ++ (.inr (11, [.ref (xb (fX K) + (h + 1)), .ref (xb (fX K) + (h + 12)), .null, .int 0, .int 0, .int 0, .int 0, .int 0, .int 0, .int 0, .int 0, .int 0]) :: (([] ++ mkBales (fX K) (h + 1)) ++ mkOrders (fX K) (h + 12)))) (h + 21) (by rw [List.length_append, List.length_cons, hh]; rfl) 12 (by decide)) b_132 b_207 b_131 b_73 rfl (by decide +kernel) rfl (by rw [B.2.1]; exact (Nat.le_of_ble_eq_true rfl)) (by rw [B.2.1]; exact (Nat.le_of_ble_eq_true rfl)) (Nat.le_of_ble_eq_true rfl) dX10_init_33 (by rw [B.2.1]; exact (Nat.le_of_ble_eq_true rfl)) (by rw [B.2.1]; exact (Nat.le_of_ble_eq_true rfl)) rfl ?_
  refine GoC.eq (app_mid _ _ _ _) ?_
  refine c_putF (np := 39) B.1 B.2.2.2.2.1 h (ci := 11) (fs := [.ref (xb (fX K) + (h + 1)), .ref (xb (fX K) + (h + 12)), .null, .int 0, .int 0, .int 0, .int 0, .int 0, .int 0, .int 0, .int 0, .int 0]) (at_mid hh _ _) (C := "YarnMill$Stock") (T := TX10) (N := 12) rfl inX10 tyX10 tyX10_ok nmX10 2 (by decide) b_212 rfl rfl (v := .ref (xb (fX K) + (h + 21))) (ty := (.object "YarnMill$Row")) (by decide +kernel) rfl rfl (Nat.le_of_ble_eq_true rfl) dX10_init_36 rfl ?_
  refine GoC.eq (set_mid hh _ (.inr (11, [.ref (xb (fX K) + (h + 1)), .ref (xb (fX K) + (h + 12)), .ref (xb (fX K) + (h + 21)), .int 0, .int 0, .int 0, .int 0, .int 0, .int 0, .int 0, .int 0, .int 0])) _) ?_
  refine c_aload_n (np := 40) B.1 dX10_init_39 rfl rfl ?_
  refine c_iconst (v := 1) (np := 41) B.1 dX10_init_40 (by decide) rfl ?_
  refine c_put (np := 44) B.1 h (ci := 11) (fs := [.ref (xb (fX K) + (h + 1)), .ref (xb (fX K) + (h + 12)), .ref (xb (fX K) + (h + 21)), .int 0, .int 0, .int 0, .int 0, .int 0, .int 0, .int 0, .int 0, .int 0]) (at_mid hh _ _) (C := "YarnMill$Stock") (T := TX10) (N := 12) rfl inX10 tyX10 tyX10_ok nmX10 4 (by decide) b_216 rfl (v := .int 1) (ty := .int) (by decide +kernel) rfl rfl (Nat.le_of_ble_eq_true rfl) dX10_init_41 rfl ?_
  refine GoC.eq (set_mid hh _ (.inr (11, [.ref (xb (fX K) + (h + 1)), .ref (xb (fX K) + (h + 12)), .ref (xb (fX K) + (h + 21)), .int 0, .int 1, .int 0, .int 0, .int 0, .int 0, .int 0, .int 0, .int 0])) _) ?_
  refine c_aload_n (np := 45) B.1 dX10_init_44 rfl rfl ?_
  refine c_sipush (v := 1000) (np := 48) B.1 dX10_init_45 (by decide) rfl ?_
  refine c_put (np := 51) B.1 h (ci := 11) (fs := [.ref (xb (fX K) + (h + 1)), .ref (xb (fX K) + (h + 12)), .ref (xb (fX K) + (h + 21)), .int 0, .int 1, .int 0, .int 0, .int 0, .int 0, .int 0, .int 0, .int 0]) (at_mid hh _ _) (C := "YarnMill$Stock") (T := TX10) (N := 12) rfl inX10 tyX10 tyX10_ok nmX10 6 (by decide) b_220 rfl (v := .int 1000) (ty := .int) (by decide +kernel) rfl rfl (Nat.le_of_ble_eq_true rfl) dX10_init_48 rfl ?_
  refine GoC.eq (set_mid hh _ (.inr (11, [.ref (xb (fX K) + (h + 1)), .ref (xb (fX K) + (h + 12)), .ref (xb (fX K) + (h + 21)), .int 0, .int 1, .int 0, .int 1000, .int 0, .int 0, .int 0, .int 0, .int 0])) _) ?_
  exact c_vret B (Nat.le_of_ble_eq_true rfl) (Nat.le_of_ble_eq_true rfl) dX10_init_51 rfl
def mkBlend (x : Ctx) (h : Nat) : List va_E := .inr (5, [.ref (xb x + (h + 1)), .ref (xb x + (h + 2)), .ref (xb x + (h + 3)), .int 0, .int 0, .int 0]) :: ((([] ++ [.inl (xct x 0, (1024, .inl (fun _ => 0)))]) ++ [.inl (xct x 0, (1024, .inl (fun _ => 0)))]) ++ [.inl (xct x 0, (1024, .inl (fun _ => 0)))])
theorem mkBlend_len (x : Ctx) (h : Nat) : (mkBlend x h).length = 4 := rfl
set_option maxRecDepth 20000 in
set_option maxHeartbeats 4000000 in
theorem kX2_init {l : Launch} {x : Ctx} (hl : l.stackTraces = false) (pre : List va_E) (h : Nat) (hh : pre.length = h) : MetR l x yX2_init cX2_init 1 1 30 3 3072 [.ref (xb x + h)] (pre ++ [.inr (5, [.null, .null, .null, .int 0, .int 0, .int 0])]) (pre ++ mkBlend x h) := by
  refine MetR.of hl (by decide) rfl (Nat.le_of_ble_eq_true rfl) [some (.ref (xb x + h))] rfl (fun K B hx _ => ?_)
  subst hx
  refine c_aload_n (np := 1) B.1 dX2_init_0 rfl rfl ?_
  refine c_objInit (np := 4) B.1 b_279 b_114 b_115 (by rw [B.2.1]; exact (Nat.le_of_ble_eq_true rfl)) (by rw [B.2.1]; exact (Nat.le_of_ble_eq_true rfl)) dX2_init_1 rfl ?_
  refine c_aload_n (np := 5) B.1 dX2_init_4 rfl rfl ?_
  refine c_sipush (v := 1024) (np := 8) B.1 dX2_init_5 (by decide) rfl ?_
  refine c_newa (np := 10) B.1 0 (atype := .int) (ty := .int) rfl rfl (fun _ => rfl) b_144 (N := 1024) (a0 := (1024, .inl (fun _ => 0))) (fun _ => rfl) (by decide) (by decide) (Nat.le_of_ble_eq_true rfl) (n := h + 1) (by rw [List.length_append, List.length_cons, hh]; rfl) (by rw [B.2.1]; exact (Nat.le_of_ble_eq_true rfl)) (by rw [B.2.1]; exact (Nat.le_of_ble_eq_true rfl)) dX2_init_8 rfl ?_
  refine GoC.eq (app_mid _ _ _ _) ?_
  refine c_putF (np := 13) B.1 B.2.2.2.2.1 h (ci := 5) (fs := [.null, .null, .null, .int 0, .int 0, .int 0]) (at_mid hh _ _) (C := "YarnMill$BlendFinder") (T := TX2) (N := 6) rfl inX2 tyX2 tyX2_ok nmX2 0 (by decide) b_280 rfl rfl (v := .ref (xb (fX K) + (h + 1))) (ty := (.array .int)) (by decide +kernel) rfl rfl (Nat.le_of_ble_eq_true rfl) dX2_init_10 rfl ?_
  refine GoC.eq (set_mid hh _ (.inr (5, [.ref (xb (fX K) + (h + 1)), .null, .null, .int 0, .int 0, .int 0])) _) ?_
  refine c_aload_n (np := 14) B.1 dX2_init_13 rfl rfl ?_
  refine c_sipush (v := 1024) (np := 17) B.1 dX2_init_14 (by decide) rfl ?_
  refine c_newa (np := 19) B.1 0 (atype := .int) (ty := .int) rfl rfl (fun _ => rfl) b_144 (N := 1024) (a0 := (1024, .inl (fun _ => 0))) (fun _ => rfl) (by decide) (by decide) (Nat.le_of_ble_eq_true rfl) (n := h + 2) (by rw [List.length_append, List.length_cons, hh]; rfl) (by rw [B.2.1]; exact (Nat.le_of_ble_eq_true rfl)) (by rw [B.2.1]; exact (Nat.le_of_ble_eq_true rfl)) dX2_init_17 rfl ?_
  refine GoC.eq (app_mid _ _ _ _) ?_
  refine c_putF (np := 22) B.1 B.2.2.2.2.1 h (ci := 5) (fs := [.ref (xb (fX K) + (h + 1)), .null, .null, .int 0, .int 0, .int 0]) (at_mid hh _ _) (C := "YarnMill$BlendFinder") (T := TX2) (N := 6) rfl inX2 tyX2 tyX2_ok nmX2 1 (by decide) b_281 rfl rfl (v := .ref (xb (fX K) + (h + 2))) (ty := (.array .int)) (by decide +kernel) rfl rfl (Nat.le_of_ble_eq_true rfl) dX2_init_19 rfl ?_
  refine GoC.eq (set_mid hh _ (.inr (5, [.ref (xb (fX K) + (h + 1)), .ref (xb (fX K) + (h + 2)), .null, .int 0, .int 0, .int 0])) _) ?_
  refine c_aload_n (np := 23) B.1 dX2_init_22 rfl rfl ?_
  refine c_sipush (v := 1024) (np := 26) B.1 dX2_init_23 (by decide) rfl ?_
  refine c_newa (np := 28) B.1 0 (atype := .int) (ty := .int) rfl rfl (fun _ => rfl) b_144 (N := 1024) (a0 := (1024, .inl (fun _ => 0))) (fun _ => rfl) (by decide) (by decide) (Nat.le_of_ble_eq_true rfl) (n := h + 3) (by rw [List.length_append, List.length_cons, hh]; rfl) (by rw [B.2.1]; exact (Nat.le_of_ble_eq_true rfl)) (by rw [B.2.1]; exact (Nat.le_of_ble_eq_true rfl)) dX2_init_26 rfl ?_
  refine GoC.eq (app_mid _ _ _ _) ?_
  refine c_putF (np := 31) B.1 B.2.2.2.2.1 h (ci := 5) (fs := [.ref (xb (fX K) + (h + 1)), .ref (xb (fX K) + (h + 2)), .null, .int 0, .int 0, .int 0]) (at_mid hh _ _) (C := "YarnMill$BlendFinder") (T := TX2) (N := 6) rfl inX2 tyX2 tyX2_ok nmX2 2 (by decide) b_282 rfl rfl (v := .ref (xb (fX K) + (h + 3))) (ty := (.array .int)) (by decide +kernel) rfl rfl (Nat.le_of_ble_eq_true rfl) dX2_init_28 rfl ?_
  refine GoC.eq (set_mid hh _ (.inr (5, [.ref (xb (fX K) + (h + 1)), .ref (xb (fX K) + (h + 2)), .ref (xb (fX K) + (h + 3)), .int 0, .int 0, .int 0])) _) ?_
  exact c_vret B (Nat.le_of_ble_eq_true rfl) (Nat.le_of_ble_eq_true rfl) dX2_init_31 rfl
def mkTime (x : Ctx) (h : Nat) : List va_E := .inr (12, [.ref (xb x + (h + 1)), .ref (xb x + (h + 2)), .ref (xb x + (h + 3)), .int 0]) :: ((([] ++ [.inl (xct x 0, (256, .inl (fun _ => 0)))]) ++ [.inl (xct x 0, (256, .inl (fun _ => 0)))]) ++ mkRow x 3 (h + 3))
theorem mkTime_len (x : Ctx) (h : Nat) : (mkTime x h).length = 5 := rfl
set_option maxRecDepth 20000 in
set_option maxHeartbeats 4000000 in
theorem kX11_init {l : Launch} {x : Ctx} (hl : l.stackTraces = false) (pre : List va_E) (h : Nat) (hh : pre.length = h) : MetR l x yX11_init cX11_init 1 2 51 4 517 [.ref (xb x + h)] (pre ++ [.inr (12, [.null, .null, .null, .int 0])]) (pre ++ mkTime x h) := by
  refine MetR.of hl (by decide) rfl (Nat.le_of_ble_eq_true rfl) [some (.ref (xb x + h))] rfl (fun K B hx _ => ?_)
  subst hx
  refine c_aload_n (np := 1) B.1 dX11_init_0 rfl rfl ?_
  refine c_objInit (np := 4) B.1 b_304 b_114 b_115 (by rw [B.2.1]; exact (Nat.le_of_ble_eq_true rfl)) (by rw [B.2.1]; exact (Nat.le_of_ble_eq_true rfl)) dX11_init_1 rfl ?_
  refine c_aload_n (np := 5) B.1 dX11_init_4 rfl rfl ?_
  refine c_sipush (v := 256) (np := 8) B.1 dX11_init_5 (by decide) rfl ?_
  refine c_newa (np := 10) B.1 0 (atype := .int) (ty := .int) rfl rfl (fun _ => rfl) b_144 (N := 256) (a0 := (256, .inl (fun _ => 0))) (fun _ => rfl) (by decide) (by decide) (Nat.le_of_ble_eq_true rfl) (n := h + 1) (by rw [List.length_append, List.length_cons, hh]; rfl) (by rw [B.2.1]; exact (Nat.le_of_ble_eq_true rfl)) (by rw [B.2.1]; exact (Nat.le_of_ble_eq_true rfl)) dX11_init_8 rfl ?_
  refine GoC.eq (app_mid _ _ _ _) ?_
  refine c_putF (np := 13) B.1 B.2.2.2.2.1 h (ci := 12) (fs := [.null, .null, .null, .int 0]) (at_mid hh _ _) (C := "YarnMill$TimeFinder") (T := TX11) (N := 4) rfl inX11 tyX11 tyX11_ok nmX11 0 (by decide) b_307 rfl rfl (v := .ref (xb (fX K) + (h + 1))) (ty := (.array .int)) (by decide +kernel) rfl rfl (Nat.le_of_ble_eq_true rfl) dX11_init_10 rfl ?_
  refine GoC.eq (set_mid hh _ (.inr (12, [.ref (xb (fX K) + (h + 1)), .null, .null, .int 0])) _) ?_
  refine c_aload_n (np := 14) B.1 dX11_init_13 rfl rfl ?_
  refine c_sipush (v := 256) (np := 17) B.1 dX11_init_14 (by decide) rfl ?_
  refine c_newa (np := 19) B.1 0 (atype := .int) (ty := .int) rfl rfl (fun _ => rfl) b_144 (N := 256) (a0 := (256, .inl (fun _ => 0))) (fun _ => rfl) (by decide) (by decide) (Nat.le_of_ble_eq_true rfl) (n := h + 2) (by rw [List.length_append, List.length_cons, hh]; rfl) (by rw [B.2.1]; exact (Nat.le_of_ble_eq_true rfl)) (by rw [B.2.1]; exact (Nat.le_of_ble_eq_true rfl)) dX11_init_17 rfl ?_
  refine GoC.eq (app_mid _ _ _ _) ?_
  refine c_putF (np := 22) B.1 B.2.2.2.2.1 h (ci := 12) (fs := [.ref (xb (fX K) + (h + 1)), .null, .null, .int 0]) (at_mid hh _ _) (C := "YarnMill$TimeFinder") (T := TX11) (N := 4) rfl inX11 tyX11 tyX11_ok nmX11 1 (by decide) b_308 rfl rfl (v := .ref (xb (fX K) + (h + 2))) (ty := (.array .int)) (by decide +kernel) rfl rfl (Nat.le_of_ble_eq_true rfl) dX11_init_19 rfl ?_
  refine GoC.eq (set_mid hh _ (.inr (12, [.ref (xb (fX K) + (h + 1)), .ref (xb (fX K) + (h + 2)), .null, .int 0])) _) ?_
  refine c_aload_n (np := 23) B.1 dX11_init_22 rfl rfl ?_
  refine c_new (np := 26) B.1 (ci := 8) (C := "YarnMill$Row") (T := TX7) (N := 2) rfl (fs := [.null, .int 0]) inX7 tyX7 tyX7_ok (by intro j hj; match j, hj with | 0, _ => rfl | 1, _ => rfl | _ + 2, hj => exact absurd hj (by omega)) b_305 b_129 b_73 (n := h + 3) (by rw [List.length_append, List.length_cons, hh]; rfl) (by rw [B.2.1]; exact (Nat.le_of_ble_eq_true rfl)) (by rw [B.2.1]; exact (Nat.le_of_ble_eq_true rfl)) dX11_init_23 rfl ?_
  refine c_dup (np := 27) B.1 dX11_init_26 rfl rfl ?_
  refine c_iconst (v := 3) (np := 28) B.1 dX11_init_27 (by decide) rfl ?_
  refine (show GoC K _ _ _ 28 _ (.int (nI 3) :: _) from ?_)
  refine c_call (np := 31) B.1 B.2.2.2.2.2 (n := 1) (As := [.int (nI 3)]) (kX7_init B.1.tr (pre ++ (.inr (12, [.ref (xb (fX K) + (h + 1)), .ref (xb (fX K) + (h + 2)), .null, .int 0]) :: (([] ++ [.inl (xct (fX K) 0, (256, .inl (fun _ => 0)))]) ++ [.inl (xct (fX K) 0, (256, .inl (fun _ => 0)))]))) (h + 3) (by rw [List.length_append, List.length_cons, hh]; rfl) 3 (by decide)) b_132 b_306 b_131 b_73 rfl (by decide +kernel) rfl (by rw [B.2.1]; exact (Nat.le_of_ble_eq_true rfl)) (by rw [B.2.1]; exact (Nat.le_of_ble_eq_true rfl)) (Nat.le_of_ble_eq_true rfl) dX11_init_28 (by rw [B.2.1]; exact (Nat.le_of_ble_eq_true rfl)) (by rw [B.2.1]; exact (Nat.le_of_ble_eq_true rfl)) rfl ?_
  refine GoC.eq (app_mid _ _ _ _) ?_
  refine c_putF (np := 34) B.1 B.2.2.2.2.1 h (ci := 12) (fs := [.ref (xb (fX K) + (h + 1)), .ref (xb (fX K) + (h + 2)), .null, .int 0]) (at_mid hh _ _) (C := "YarnMill$TimeFinder") (T := TX11) (N := 4) rfl inX11 tyX11 tyX11_ok nmX11 2 (by decide) b_309 rfl rfl (v := .ref (xb (fX K) + (h + 3))) (ty := (.object "YarnMill$Row")) (by decide +kernel) rfl rfl (Nat.le_of_ble_eq_true rfl) dX11_init_31 rfl ?_
  refine GoC.eq (set_mid hh _ (.inr (12, [.ref (xb (fX K) + (h + 1)), .ref (xb (fX K) + (h + 2)), .ref (xb (fX K) + (h + 3)), .int 0])) _) ?_
  exact c_vret B (Nat.le_of_ble_eq_true rfl) (Nat.le_of_ble_eq_true rfl) dX11_init_34 rfl
def mkSplice (x : Ctx) (h : Nat) : List va_E := .inr (10, [.ref (xb x + (h + 1)), .ref (xb x + (h + 2))]) :: (([] ++ [.inl (xct x 0, (144, .inl (fun _ => 0)))]) ++ [.inl (xct x 0, (144, .inl (fun _ => 0)))])
theorem mkSplice_len (x : Ctx) (h : Nat) : (mkSplice x h).length = 3 := rfl
set_option maxRecDepth 20000 in
set_option maxHeartbeats 4000000 in
theorem kX9_init {l : Launch} {x : Ctx} (hl : l.stackTraces = false) (pre : List va_E) (h : Nat) (hh : pre.length = h) : MetR l x yX9_init cX9_init 1 1 30 2 288 [.ref (xb x + h)] (pre ++ [.inr (10, [.null, .null])]) (pre ++ mkSplice x h) := by
  refine MetR.of hl (by decide) rfl (Nat.le_of_ble_eq_true rfl) [some (.ref (xb x + h))] rfl (fun K B hx _ => ?_)
  subst hx
  refine c_aload_n (np := 1) B.1 dX9_init_0 rfl rfl ?_
  refine c_objInit (np := 4) B.1 b_325 b_114 b_115 (by rw [B.2.1]; exact (Nat.le_of_ble_eq_true rfl)) (by rw [B.2.1]; exact (Nat.le_of_ble_eq_true rfl)) dX9_init_1 rfl ?_
  refine c_aload_n (np := 5) B.1 dX9_init_4 rfl rfl ?_
  refine c_sipush (v := 144) (np := 8) B.1 dX9_init_5 (by decide) rfl ?_
  refine c_newa (np := 10) B.1 0 (atype := .int) (ty := .int) rfl rfl (fun _ => rfl) b_144 (N := 144) (a0 := (144, .inl (fun _ => 0))) (fun _ => rfl) (by decide) (by decide) (Nat.le_of_ble_eq_true rfl) (n := h + 1) (by rw [List.length_append, List.length_cons, hh]; rfl) (by rw [B.2.1]; exact (Nat.le_of_ble_eq_true rfl)) (by rw [B.2.1]; exact (Nat.le_of_ble_eq_true rfl)) dX9_init_8 rfl ?_
  refine GoC.eq (app_mid _ _ _ _) ?_
  refine c_putF (np := 13) B.1 B.2.2.2.2.1 h (ci := 10) (fs := [.null, .null]) (at_mid hh _ _) (C := "YarnMill$SpliceFinder") (T := TX9) (N := 2) rfl inX9 tyX9 tyX9_ok nmX9 0 (by decide) b_326 rfl rfl (v := .ref (xb (fX K) + (h + 1))) (ty := (.array .int)) (by decide +kernel) rfl rfl (Nat.le_of_ble_eq_true rfl) dX9_init_10 rfl ?_
  refine GoC.eq (set_mid hh _ (.inr (10, [.ref (xb (fX K) + (h + 1)), .null])) _) ?_
  refine c_aload_n (np := 14) B.1 dX9_init_13 rfl rfl ?_
  refine c_sipush (v := 144) (np := 17) B.1 dX9_init_14 (by decide) rfl ?_
  refine c_newa (np := 19) B.1 0 (atype := .int) (ty := .int) rfl rfl (fun _ => rfl) b_144 (N := 144) (a0 := (144, .inl (fun _ => 0))) (fun _ => rfl) (by decide) (by decide) (Nat.le_of_ble_eq_true rfl) (n := h + 2) (by rw [List.length_append, List.length_cons, hh]; rfl) (by rw [B.2.1]; exact (Nat.le_of_ble_eq_true rfl)) (by rw [B.2.1]; exact (Nat.le_of_ble_eq_true rfl)) dX9_init_17 rfl ?_
  refine GoC.eq (app_mid _ _ _ _) ?_
  refine c_putF (np := 22) B.1 B.2.2.2.2.1 h (ci := 10) (fs := [.ref (xb (fX K) + (h + 1)), .null]) (at_mid hh _ _) (C := "YarnMill$SpliceFinder") (T := TX9) (N := 2) rfl inX9 tyX9 tyX9_ok nmX9 1 (by decide) b_327 rfl rfl (v := .ref (xb (fX K) + (h + 2))) (ty := (.array .int)) (by decide +kernel) rfl rfl (Nat.le_of_ble_eq_true rfl) dX9_init_19 rfl ?_
  refine GoC.eq (set_mid hh _ (.inr (10, [.ref (xb (fX K) + (h + 1)), .ref (xb (fX K) + (h + 2))])) _) ?_
  exact c_vret B (Nat.le_of_ble_eq_true rfl) (Nat.le_of_ble_eq_true rfl) dX9_init_22 rfl
def mkSb (x : Ctx) (h : Nat) : List va_E := .inr (1, [.ref (xb x + (h + 1)), .int 0, .int 0, .int 0]) :: ([] ++ [.inl (xct x 3, (16, .inl (fun _ => 0)))])
theorem mkSb_len (x : Ctx) (h : Nat) : (mkSb x h).length = 2 := rfl
set_option maxRecDepth 20000 in
set_option maxHeartbeats 4000000 in
theorem kJ5_init_d00df {l : Launch} {x : Ctx} (hl : l.stackTraces = false) (pre : List va_E) (h : Nat) (hh : pre.length = h) : MetR l x yJ5_init_d00df cJ5_init_d00df 2 1 30 1 16 [.ref (xb x + h), .int 16] (pre ++ [.inr (1, [.null, .int 0, .int 0, .int 0])]) (pre ++ mkSb x h) := by
  refine MetR.of hl (by decide) rfl (Nat.le_of_ble_eq_true rfl) [some (.ref (xb x + h)), some (.int 16)] rfl (fun K B hx _ => ?_)
  subst hx
  refine c_aload_n (np := 1) B.1 dJ5_init_d00df_0 rfl rfl ?_
  refine c_objInit (np := 4) B.1 b_349 b_114 b_115 (by rw [B.2.1]; exact (Nat.le_of_ble_eq_true rfl)) (by rw [B.2.1]; exact (Nat.le_of_ble_eq_true rfl)) dJ5_init_d00df_1 rfl ?_
  refine c_compact (np := 7) B.1 b_350 dJ5_init_d00df_4 rfl ?_
  refine c_if_eq (np := 10) (tgt := 25) B.1 dJ5_init_d00df_7 (by decide) rfl (fun q => absurd q (by decide)) (fun _ => ?_)
  refine c_aload_n (np := 11) B.1 dJ5_init_d00df_10 rfl rfl ?_
  refine c_iload_n (np := 12) B.1 dJ5_init_d00df_11 rfl rfl ?_
  refine c_newa (np := 14) B.1 3 (atype := .byte) (ty := .byte) rfl rfl (fun _ => rfl) b_373 (N := 16) (a0 := (16, .inl (fun _ => 0))) (fun _ => rfl) (by decide) (by decide) (Nat.le_of_ble_eq_true rfl) (n := h + 1) (by rw [List.length_append, List.length_cons, hh]; rfl) (by rw [B.2.1]; exact (Nat.le_of_ble_eq_true rfl)) (by rw [B.2.1]; exact (Nat.le_of_ble_eq_true rfl)) dJ5_init_d00df_12 rfl ?_
  refine GoC.eq (app_mid _ _ _ _) ?_
  refine c_put (np := 17) B.1 h (ci := 1) (fs := [.null, .int 0, .int 0, .int 0]) (at_mid hh _ _) (C := "java/lang/StringBuilder") (T := TJ4) (N := 4) rfl inJ4 tyJ4 tyJ4_ok nmJ4 0 (by decide) b_359 rfl (v := .ref (xb (fX K) + (h + 1))) (ty := (.array .byte)) (by decide +kernel) rfl rfl (Nat.le_of_ble_eq_true rfl) dJ5_init_d00df_14 rfl ?_
  refine GoC.eq (set_mid hh _ (.inr (1, [.ref (xb (fX K) + (h + 1)), .int 0, .int 0, .int 0])) _) ?_
  refine c_aload_n (np := 18) B.1 dJ5_init_d00df_17 rfl rfl ?_
  refine c_iconst (v := 0) (np := 19) B.1 dJ5_init_d00df_18 (by decide) rfl ?_
  refine c_put (np := 22) B.1 h (ci := 1) (fs := [.ref (xb (fX K) + (h + 1)), .int 0, .int 0, .int 0]) (at_mid hh _ _) (C := "java/lang/StringBuilder") (T := TJ4) (N := 4) rfl inJ4 tyJ4 tyJ4_ok nmJ4 1 (by decide) b_360 rfl (v := .int 0) (ty := .byte) (by decide +kernel) (by decide) (by decide) (Nat.le_of_ble_eq_true rfl) dJ5_init_d00df_19 rfl ?_
  refine GoC.eq (set_mid hh _ (.inr (1, [.ref (xb (fX K) + (h + 1)), .int 0, .int 0, .int 0])) _) ?_
  refine c_goto (tgt := 38) B.1 dJ5_init_d00df_22 (by decide) ?_
  exact c_vret B (Nat.le_of_ble_eq_true rfl) (Nat.le_of_ble_eq_true rfl) dJ5_init_d00df_38 rfl
set_option maxRecDepth 20000 in
set_option maxHeartbeats 4000000 in
theorem kJ4_init_da8c8 {l : Launch} {x : Ctx} (hl : l.stackTraces = false) (pre : List va_E) (h : Nat) (hh : pre.length = h) : MetR l x yJ4_init_da8c8 cJ4_init_da8c8 1 2 51 1 16 [.ref (xb x + h)] (pre ++ [.inr (1, [.null, .int 0, .int 0, .int 0])]) (pre ++ mkSb x h) := by
  refine MetR.of hl (by decide) rfl (Nat.le_of_ble_eq_true rfl) [some (.ref (xb x + h))] rfl (fun K B hx _ => ?_)
  subst hx
  refine c_aload_n (np := 1) B.1 dJ4_init_da8c8_0 rfl rfl ?_
  refine c_bipush (v := 16) (np := 3) B.1 dJ4_init_da8c8_1 (by decide) rfl ?_
  refine c_call (np := 6) B.1 B.2.2.2.2.2 (n := 1) (As := [.int 16]) (kJ5_init_d00df B.1.tr pre h hh) b_348 b_346 b_347 b_81 rfl (by decide +kernel) rfl (by rw [B.2.1]; exact (Nat.le_of_ble_eq_true rfl)) (by rw [B.2.1]; exact (Nat.le_of_ble_eq_true rfl)) (Nat.le_of_ble_eq_true rfl) dJ4_init_da8c8_3 (by rw [B.2.1]; exact (Nat.le_of_ble_eq_true rfl)) (by rw [B.2.1]; exact (Nat.le_of_ble_eq_true rfl)) rfl ?_
  exact c_vret B (Nat.le_of_ble_eq_true rfl) (Nat.le_of_ble_eq_true rfl) dJ4_init_da8c8_6 rfl
def mkScript (x : Ctx) (h : Nat) : List va_E := .inr (9, [.ref (xb x + (h + 1)), .ref (xb x + (h + 3)), .ref (xb x + (h + 4)), .int 0, .int 0]) :: ((([] ++ mkSb x (h + 1)) ++ [.inl (xct x 5, (60, .inr (.inr (.inr (.inr (fun _ => none))))))]) ++ [.inl (xct x 0, (180, .inl (fun _ => 0)))])
theorem mkScript_len (x : Ctx) (h : Nat) : (mkScript x h).length = 5 := rfl
set_option maxRecDepth 20000 in
set_option maxHeartbeats 4000000 in
theorem kX8_init {l : Launch} {x : Ctx} (hl : l.stackTraces = false) (pre : List va_E) (h : Nat) (hh : pre.length = h) : MetR l x yX8_init cX8_init 1 3 71 4 260 [.ref (xb x + h)] (pre ++ [.inr (9, [.null, .null, .null, .int 0, .int 0])]) (pre ++ mkScript x h) := by
  refine MetR.of hl (by decide) rfl (Nat.le_of_ble_eq_true rfl) [some (.ref (xb x + h))] rfl (fun K B hx _ => ?_)
  subst hx
  refine c_aload_n (np := 1) B.1 dX8_init_0 rfl rfl ?_
  refine c_objInit (np := 4) B.1 b_340 b_114 b_115 (by rw [B.2.1]; exact (Nat.le_of_ble_eq_true rfl)) (by rw [B.2.1]; exact (Nat.le_of_ble_eq_true rfl)) dX8_init_1 rfl ?_
  refine c_aload_n (np := 5) B.1 dX8_init_4 rfl rfl ?_
  refine c_new (np := 8) B.1 (ci := 1) (C := "java/lang/StringBuilder") (T := TJ4) (N := 4) rfl (fs := [.null, .int 0, .int 0, .int 0]) inJ4 tyJ4 tyJ4_ok (by intro j hj; match j, hj with | 0, _ => rfl | 1, _ => rfl | 2, _ => rfl | 3, _ => rfl | _ + 4, hj => exact absurd hj (by omega)) b_341 b_342 b_82 (n := h + 1) (by rw [List.length_append, List.length_cons, hh]; rfl) (by rw [B.2.1]; exact (Nat.le_of_ble_eq_true rfl)) (by rw [B.2.1]; exact (Nat.le_of_ble_eq_true rfl)) dX8_init_5 rfl ?_
  refine c_dup (np := 9) B.1 dX8_init_8 rfl rfl ?_
  refine c_call (np := 12) B.1 B.2.2.2.2.2 (n := 0) (As := []) (kJ4_init_da8c8 B.1.tr (pre ++ (.inr (9, [.null, .null, .null, .int 0, .int 0]) :: [])) (h + 1) (by rw [List.length_append, List.length_cons, hh]; rfl)) b_345 b_343 b_344 b_82 rfl (by decide +kernel) rfl (by rw [B.2.1]; exact (Nat.le_of_ble_eq_true rfl)) (by rw [B.2.1]; exact (Nat.le_of_ble_eq_true rfl)) (Nat.le_of_ble_eq_true rfl) dX8_init_9 (by rw [B.2.1]; exact (Nat.le_of_ble_eq_true rfl)) (by rw [B.2.1]; exact (Nat.le_of_ble_eq_true rfl)) rfl ?_
  refine GoC.eq (app_mid _ _ _ _) ?_
  refine c_putF (np := 15) B.1 B.2.2.2.2.1 h (ci := 9) (fs := [.null, .null, .null, .int 0, .int 0]) (at_mid hh _ _) (C := "YarnMill$Script") (T := TX8) (N := 5) rfl inX8 tyX8 tyX8_ok nmX8 0 (by decide) b_376 rfl rfl (v := .ref (xb (fX K) + (h + 1))) (ty := (.object "java/lang/StringBuilder")) (by decide +kernel) rfl rfl (Nat.le_of_ble_eq_true rfl) dX8_init_12 rfl ?_
  refine GoC.eq (set_mid hh _ (.inr (9, [.ref (xb (fX K) + (h + 1)), .null, .null, .int 0, .int 0])) _) ?_
  refine c_aload_n (np := 16) B.1 dX8_init_15 rfl rfl ?_
  refine c_bipush (v := 60) (np := 18) B.1 dX8_init_16 (by decide) rfl ?_
  refine c_newq (np := 21) B.1 5 (C := "YarnMill$Command") rfl b_374 B.2.2.2.2.2.2 (N := 60) (by decide) (by decide) (Nat.le_of_ble_eq_true rfl) (n := h + 3) (by rw [List.length_append, List.length_cons, hh]; rfl) (by rw [B.2.1]; exact (Nat.le_of_ble_eq_true rfl)) (by rw [B.2.1]; exact (Nat.le_of_ble_eq_true rfl)) dX8_init_18 rfl ?_
  refine GoC.eq (app_mid _ _ _ _) ?_
  refine c_putF (np := 24) B.1 B.2.2.2.2.1 h (ci := 9) (fs := [.ref (xb (fX K) + (h + 1)), .null, .null, .int 0, .int 0]) (at_mid hh _ _) (C := "YarnMill$Script") (T := TX8) (N := 5) rfl inX8 tyX8 tyX8_ok nmX8 1 (by decide) b_377 rfl rfl (v := .ref (xb (fX K) + (h + 3))) (ty := (.array (.object "YarnMill$Command"))) (by decide +kernel) rfl rfl (Nat.le_of_ble_eq_true rfl) dX8_init_21 rfl ?_
  refine GoC.eq (set_mid hh _ (.inr (9, [.ref (xb (fX K) + (h + 1)), .ref (xb (fX K) + (h + 3)), .null, .int 0, .int 0])) _) ?_
  refine c_aload_n (np := 25) B.1 dX8_init_24 rfl rfl ?_
  refine c_sipush (v := 180) (np := 28) B.1 dX8_init_25 (by decide) rfl ?_
  refine c_newa (np := 30) B.1 0 (atype := .int) (ty := .int) rfl rfl (fun _ => rfl) b_144 (N := 180) (a0 := (180, .inl (fun _ => 0))) (fun _ => rfl) (by decide) (by decide) (Nat.le_of_ble_eq_true rfl) (n := h + 4) (by rw [List.length_append, List.length_cons, hh]; rfl) (by rw [B.2.1]; exact (Nat.le_of_ble_eq_true rfl)) (by rw [B.2.1]; exact (Nat.le_of_ble_eq_true rfl)) dX8_init_28 rfl ?_
  refine GoC.eq (app_mid _ _ _ _) ?_
  refine c_putF (np := 33) B.1 B.2.2.2.2.1 h (ci := 9) (fs := [.ref (xb (fX K) + (h + 1)), .ref (xb (fX K) + (h + 3)), .null, .int 0, .int 0]) (at_mid hh _ _) (C := "YarnMill$Script") (T := TX8) (N := 5) rfl inX8 tyX8 tyX8_ok nmX8 2 (by decide) b_378 rfl rfl (v := .ref (xb (fX K) + (h + 4))) (ty := (.array .int)) (by decide +kernel) rfl rfl (Nat.le_of_ble_eq_true rfl) dX8_init_30 rfl ?_
  refine GoC.eq (set_mid hh _ (.inr (9, [.ref (xb (fX K) + (h + 1)), .ref (xb (fX K) + (h + 3)), .ref (xb (fX K) + (h + 4)), .int 0, .int 0])) _) ?_
  exact c_vret B (Nat.le_of_ble_eq_true rfl) (Nat.le_of_ble_eq_true rfl) dX8_init_33 rfl
def mkModel (x : Ctx) (h : Nat) : List va_E := .inr (14, [.ref (xb x + (h + 1)), .ref (xb x + (h + 2)), .ref (xb x + (h + 3)), .ref (xb x + (h + 4)), .ref (xb x + (h + 5)), .ref (xb x + (h + 6)), .int 0, .int 0, .int (-1), .int (-1), .int 0, .int 0, .int 0, .ref (xb x + (h + 7)), .int 0, .ref (xb x + (h + 8)), .ref (xb x + (h + 9)), .int 0, .int 0, .int 0]) :: ((((((((([] ++ [.inl (xct x 0, (90, .inl (upd (upd (fun _ => 0) 0 1000) 3 1)))]) ++ [.inl (xct x 0, (90, .inl (fun _ => 0)))]) ++ [.inl (xct x 0, (90, .inl (fun _ => 0)))]) ++ [.inl (xct x 0, (720, .inl (fun _ => 0)))]) ++ [.inl (xct x 0, (3, .inl (fun _ => 0)))]) ++ [.inl (xct x 0, (144, .inl (fun _ => 0)))]) ++ [.inl (xct x 0, (90, .inl (fun _ => 0)))]) ++ [.inl (xct x 0, (60, .inl (fun _ => 0)))]) ++ [.inl (xct x 0, (124, .inl (fun _ => 0)))])
theorem mkModel_len (x : Ctx) (h : Nat) : (mkModel x h).length = 10 := rfl
set_option maxRecDepth 20000 in
set_option maxHeartbeats 4000000 in
theorem kX13_init {l : Launch} {x : Ctx} (hl : l.stackTraces = false) (pre : List va_E) (h : Nat) (hh : pre.length = h) : MetR l x yX13_init cX13_init 1 1 30 9 1411 [.ref (xb x + h)] (pre ++ [.inr (14, [.null, .null, .null, .null, .null, .null, .int 0, .int 0, .int 0, .int 0, .int 0, .int 0, .int 0, .null, .int 0, .null, .null, .int 0, .int 0, .int 0])]) (pre ++ mkModel x h) := by
  refine MetR.of hl (by decide) rfl (Nat.le_of_ble_eq_true rfl) [some (.ref (xb x + h))] rfl (fun K B hx _ => ?_)
  subst hx
  refine c_aload_n (np := 1) B.1 dX13_init_0 rfl rfl ?_
  refine c_objInit (np := 4) B.1 b_1749 b_114 b_115 (by rw [B.2.1]; exact (Nat.le_of_ble_eq_true rfl)) (by rw [B.2.1]; exact (Nat.le_of_ble_eq_true rfl)) dX13_init_1 rfl ?_
  refine c_aload_n (np := 5) B.1 dX13_init_4 rfl rfl ?_
  refine c_bipush (v := 90) (np := 7) B.1 dX13_init_5 (by decide) rfl ?_
  refine c_newa (np := 9) B.1 0 (atype := .int) (ty := .int) rfl rfl (fun _ => rfl) b_144 (N := 90) (a0 := (90, .inl (fun _ => 0))) (fun _ => rfl) (by decide) (by decide) (Nat.le_of_ble_eq_true rfl) (n := h + 1) (by rw [List.length_append, List.length_cons, hh]; rfl) (by rw [B.2.1]; exact (Nat.le_of_ble_eq_true rfl)) (by rw [B.2.1]; exact (Nat.le_of_ble_eq_true rfl)) dX13_init_7 rfl ?_
  refine GoC.eq (app_mid _ _ _ _) ?_
  refine c_putF (np := 12) B.1 B.2.2.2.2.1 h (ci := 14) (fs := [.null, .null, .null, .null, .null, .null, .int 0, .int 0, .int 0, .int 0, .int 0, .int 0, .int 0, .null, .int 0, .null, .null, .int 0, .int 0, .int 0]) (at_mid hh _ _) (C := "YarnMillModel") (T := TX13) (N := 20) rfl inX13 tyX13 tyX13_ok nmX13 0 (by decide) b_1750 rfl rfl (v := .ref (xb (fX K) + (h + 1))) (ty := (.array .int)) (by decide +kernel) rfl rfl (Nat.le_of_ble_eq_true rfl) dX13_init_9 rfl ?_
  refine GoC.eq (set_mid hh _ (.inr (14, [.ref (xb (fX K) + (h + 1)), .null, .null, .null, .null, .null, .int 0, .int 0, .int 0, .int 0, .int 0, .int 0, .int 0, .null, .int 0, .null, .null, .int 0, .int 0, .int 0])) _) ?_
  refine c_aload_n (np := 13) B.1 dX13_init_12 rfl rfl ?_
  refine c_bipush (v := 90) (np := 15) B.1 dX13_init_13 (by decide) rfl ?_
  refine c_newa (np := 17) B.1 0 (atype := .int) (ty := .int) rfl rfl (fun _ => rfl) b_144 (N := 90) (a0 := (90, .inl (fun _ => 0))) (fun _ => rfl) (by decide) (by decide) (Nat.le_of_ble_eq_true rfl) (n := h + 2) (by rw [List.length_append, List.length_cons, hh]; rfl) (by rw [B.2.1]; exact (Nat.le_of_ble_eq_true rfl)) (by rw [B.2.1]; exact (Nat.le_of_ble_eq_true rfl)) dX13_init_15 rfl ?_
  refine GoC.eq (app_mid _ _ _ _) ?_
  refine c_putF (np := 20) B.1 B.2.2.2.2.1 h (ci := 14) (fs := [.ref (xb (fX K) + (h + 1)), .null, .null, .null, .null, .null, .int 0, .int 0, .int 0, .int 0, .int 0, .int 0, .int 0, .null, .int 0, .null, .null, .int 0, .int 0, .int 0]) (at_mid hh _ _) (C := "YarnMillModel") (T := TX13) (N := 20) rfl inX13 tyX13 tyX13_ok nmX13 1 (by decide) b_1751 rfl rfl (v := .ref (xb (fX K) + (h + 2))) (ty := (.array .int)) (by decide +kernel) rfl rfl (Nat.le_of_ble_eq_true rfl) dX13_init_17 rfl ?_
  refine GoC.eq (set_mid hh _ (.inr (14, [.ref (xb (fX K) + (h + 1)), .ref (xb (fX K) + (h + 2)), .null, .null, .null, .null, .int 0, .int 0, .int 0, .int 0, .int 0, .int 0, .int 0, .null, .int 0, .null, .null, .int 0, .int 0, .int 0])) _) ?_
  refine c_aload_n (np := 21) B.1 dX13_init_20 rfl rfl ?_
  refine c_bipush (v := 90) (np := 23) B.1 dX13_init_21 (by decide) rfl ?_
  refine c_newa (np := 25) B.1 0 (atype := .int) (ty := .int) rfl rfl (fun _ => rfl) b_144 (N := 90) (a0 := (90, .inl (fun _ => 0))) (fun _ => rfl) (by decide) (by decide) (Nat.le_of_ble_eq_true rfl) (n := h + 3) (by rw [List.length_append, List.length_cons, hh]; rfl) (by rw [B.2.1]; exact (Nat.le_of_ble_eq_true rfl)) (by rw [B.2.1]; exact (Nat.le_of_ble_eq_true rfl)) dX13_init_23 rfl ?_
  refine GoC.eq (app_mid _ _ _ _) ?_
  refine c_putF (np := 28) B.1 B.2.2.2.2.1 h (ci := 14) (fs := [.ref (xb (fX K) + (h + 1)), .ref (xb (fX K) + (h + 2)), .null, .null, .null, .null, .int 0, .int 0, .int 0, .int 0, .int 0, .int 0, .int 0, .null, .int 0, .null, .null, .int 0, .int 0, .int 0]) (at_mid hh _ _) (C := "YarnMillModel") (T := TX13) (N := 20) rfl inX13 tyX13 tyX13_ok nmX13 2 (by decide) b_1752 rfl rfl (v := .ref (xb (fX K) + (h + 3))) (ty := (.array .int)) (by decide +kernel) rfl rfl (Nat.le_of_ble_eq_true rfl) dX13_init_25 rfl ?_
  refine GoC.eq (set_mid hh _ (.inr (14, [.ref (xb (fX K) + (h + 1)), .ref (xb (fX K) + (h + 2)), .ref (xb (fX K) + (h + 3)), .null, .null, .null, .int 0, .int 0, .int 0, .int 0, .int 0, .int 0, .int 0, .null, .int 0, .null, .null, .int 0, .int 0, .int 0])) _) ?_
  refine c_aload_n (np := 29) B.1 dX13_init_28 rfl rfl ?_
  refine c_sipush (v := 720) (np := 32) B.1 dX13_init_29 (by decide) rfl ?_
  refine c_newa (np := 34) B.1 0 (atype := .int) (ty := .int) rfl rfl (fun _ => rfl) b_144 (N := 720) (a0 := (720, .inl (fun _ => 0))) (fun _ => rfl) (by decide) (by decide) (Nat.le_of_ble_eq_true rfl) (n := h + 4) (by rw [List.length_append, List.length_cons, hh]; rfl) (by rw [B.2.1]; exact (Nat.le_of_ble_eq_true rfl)) (by rw [B.2.1]; exact (Nat.le_of_ble_eq_true rfl)) dX13_init_32 rfl ?_
  refine GoC.eq (app_mid _ _ _ _) ?_
  refine c_putF (np := 37) B.1 B.2.2.2.2.1 h (ci := 14) (fs := [.ref (xb (fX K) + (h + 1)), .ref (xb (fX K) + (h + 2)), .ref (xb (fX K) + (h + 3)), .null, .null, .null, .int 0, .int 0, .int 0, .int 0, .int 0, .int 0, .int 0, .null, .int 0, .null, .null, .int 0, .int 0, .int 0]) (at_mid hh _ _) (C := "YarnMillModel") (T := TX13) (N := 20) rfl inX13 tyX13 tyX13_ok nmX13 3 (by decide) b_1753 rfl rfl (v := .ref (xb (fX K) + (h + 4))) (ty := (.array .int)) (by decide +kernel) rfl rfl (Nat.le_of_ble_eq_true rfl) dX13_init_34 rfl ?_
  refine GoC.eq (set_mid hh _ (.inr (14, [.ref (xb (fX K) + (h + 1)), .ref (xb (fX K) + (h + 2)), .ref (xb (fX K) + (h + 3)), .ref (xb (fX K) + (h + 4)), .null, .null, .int 0, .int 0, .int 0, .int 0, .int 0, .int 0, .int 0, .null, .int 0, .null, .null, .int 0, .int 0, .int 0])) _) ?_
  refine c_aload_n (np := 38) B.1 dX13_init_37 rfl rfl ?_
  refine c_iconst (v := 3) (np := 39) B.1 dX13_init_38 (by decide) rfl ?_
  refine c_newa (np := 41) B.1 0 (atype := .int) (ty := .int) rfl rfl (fun _ => rfl) b_144 (N := 3) (a0 := (3, .inl (fun _ => 0))) (fun _ => rfl) (by decide) (by decide) (Nat.le_of_ble_eq_true rfl) (n := h + 5) (by rw [List.length_append, List.length_cons, hh]; rfl) (by rw [B.2.1]; exact (Nat.le_of_ble_eq_true rfl)) (by rw [B.2.1]; exact (Nat.le_of_ble_eq_true rfl)) dX13_init_39 rfl ?_
  refine GoC.eq (app_mid _ _ _ _) ?_
  refine c_putF (np := 44) B.1 B.2.2.2.2.1 h (ci := 14) (fs := [.ref (xb (fX K) + (h + 1)), .ref (xb (fX K) + (h + 2)), .ref (xb (fX K) + (h + 3)), .ref (xb (fX K) + (h + 4)), .null, .null, .int 0, .int 0, .int 0, .int 0, .int 0, .int 0, .int 0, .null, .int 0, .null, .null, .int 0, .int 0, .int 0]) (at_mid hh _ _) (C := "YarnMillModel") (T := TX13) (N := 20) rfl inX13 tyX13 tyX13_ok nmX13 4 (by decide) b_1754 rfl rfl (v := .ref (xb (fX K) + (h + 5))) (ty := (.array .int)) (by decide +kernel) rfl rfl (Nat.le_of_ble_eq_true rfl) dX13_init_41 rfl ?_
  refine GoC.eq (set_mid hh _ (.inr (14, [.ref (xb (fX K) + (h + 1)), .ref (xb (fX K) + (h + 2)), .ref (xb (fX K) + (h + 3)), .ref (xb (fX K) + (h + 4)), .ref (xb (fX K) + (h + 5)), .null, .int 0, .int 0, .int 0, .int 0, .int 0, .int 0, .int 0, .null, .int 0, .null, .null, .int 0, .int 0, .int 0])) _) ?_
  refine c_aload_n (np := 45) B.1 dX13_init_44 rfl rfl ?_
  refine c_sipush (v := 144) (np := 48) B.1 dX13_init_45 (by decide) rfl ?_
  refine c_newa (np := 50) B.1 0 (atype := .int) (ty := .int) rfl rfl (fun _ => rfl) b_144 (N := 144) (a0 := (144, .inl (fun _ => 0))) (fun _ => rfl) (by decide) (by decide) (Nat.le_of_ble_eq_true rfl) (n := h + 6) (by rw [List.length_append, List.length_cons, hh]; rfl) (by rw [B.2.1]; exact (Nat.le_of_ble_eq_true rfl)) (by rw [B.2.1]; exact (Nat.le_of_ble_eq_true rfl)) dX13_init_48 rfl ?_
  refine GoC.eq (app_mid _ _ _ _) ?_
  refine c_putF (np := 53) B.1 B.2.2.2.2.1 h (ci := 14) (fs := [.ref (xb (fX K) + (h + 1)), .ref (xb (fX K) + (h + 2)), .ref (xb (fX K) + (h + 3)), .ref (xb (fX K) + (h + 4)), .ref (xb (fX K) + (h + 5)), .null, .int 0, .int 0, .int 0, .int 0, .int 0, .int 0, .int 0, .null, .int 0, .null, .null, .int 0, .int 0, .int 0]) (at_mid hh _ _) (C := "YarnMillModel") (T := TX13) (N := 20) rfl inX13 tyX13 tyX13_ok nmX13 5 (by decide) b_1755 rfl rfl (v := .ref (xb (fX K) + (h + 6))) (ty := (.array .int)) (by decide +kernel) rfl rfl (Nat.le_of_ble_eq_true rfl) dX13_init_50 rfl ?_
  refine GoC.eq (set_mid hh _ (.inr (14, [.ref (xb (fX K) + (h + 1)), .ref (xb (fX K) + (h + 2)), .ref (xb (fX K) + (h + 3)), .ref (xb (fX K) + (h + 4)), .ref (xb (fX K) + (h + 5)), .ref (xb (fX K) + (h + 6)), .int 0, .int 0, .int 0, .int 0, .int 0, .int 0, .int 0, .null, .int 0, .null, .null, .int 0, .int 0, .int 0])) _) ?_
  refine c_aload_n (np := 54) B.1 dX13_init_53 rfl rfl ?_
  refine c_iconst (v := (-1)) (np := 55) B.1 dX13_init_54 (by decide) rfl ?_
  refine c_put (np := 58) B.1 h (ci := 14) (fs := [.ref (xb (fX K) + (h + 1)), .ref (xb (fX K) + (h + 2)), .ref (xb (fX K) + (h + 3)), .ref (xb (fX K) + (h + 4)), .ref (xb (fX K) + (h + 5)), .ref (xb (fX K) + (h + 6)), .int 0, .int 0, .int 0, .int 0, .int 0, .int 0, .int 0, .null, .int 0, .null, .null, .int 0, .int 0, .int 0]) (at_mid hh _ _) (C := "YarnMillModel") (T := TX13) (N := 20) rfl inX13 tyX13 tyX13_ok nmX13 8 (by decide) b_1758 rfl (v := .int (-1)) (ty := .int) (by decide +kernel) rfl rfl (Nat.le_of_ble_eq_true rfl) dX13_init_55 rfl ?_
  refine GoC.eq (set_mid hh _ (.inr (14, [.ref (xb (fX K) + (h + 1)), .ref (xb (fX K) + (h + 2)), .ref (xb (fX K) + (h + 3)), .ref (xb (fX K) + (h + 4)), .ref (xb (fX K) + (h + 5)), .ref (xb (fX K) + (h + 6)), .int 0, .int 0, .int (-1), .int 0, .int 0, .int 0, .int 0, .null, .int 0, .null, .null, .int 0, .int 0, .int 0])) _) ?_
  refine c_aload_n (np := 59) B.1 dX13_init_58 rfl rfl ?_
  refine c_iconst (v := (-1)) (np := 60) B.1 dX13_init_59 (by decide) rfl ?_
  refine c_put (np := 63) B.1 h (ci := 14) (fs := [.ref (xb (fX K) + (h + 1)), .ref (xb (fX K) + (h + 2)), .ref (xb (fX K) + (h + 3)), .ref (xb (fX K) + (h + 4)), .ref (xb (fX K) + (h + 5)), .ref (xb (fX K) + (h + 6)), .int 0, .int 0, .int (-1), .int 0, .int 0, .int 0, .int 0, .null, .int 0, .null, .null, .int 0, .int 0, .int 0]) (at_mid hh _ _) (C := "YarnMillModel") (T := TX13) (N := 20) rfl inX13 tyX13 tyX13_ok nmX13 9 (by decide) b_1759 rfl (v := .int (-1)) (ty := .int) (by decide +kernel) rfl rfl (Nat.le_of_ble_eq_true rfl) dX13_init_60 rfl ?_
  refine GoC.eq (set_mid hh _ (.inr (14, [.ref (xb (fX K) + (h + 1)), .ref (xb (fX K) + (h + 2)), .ref (xb (fX K) + (h + 3)), .ref (xb (fX K) + (h + 4)), .ref (xb (fX K) + (h + 5)), .ref (xb (fX K) + (h + 6)), .int 0, .int 0, .int (-1), .int (-1), .int 0, .int 0, .int 0, .null, .int 0, .null, .null, .int 0, .int 0, .int 0])) _) ?_
  refine c_aload_n (np := 64) B.1 dX13_init_63 rfl rfl ?_
  refine c_bipush (v := 90) (np := 66) B.1 dX13_init_64 (by decide) rfl ?_
  refine c_newa (np := 68) B.1 0 (atype := .int) (ty := .int) rfl rfl (fun _ => rfl) b_144 (N := 90) (a0 := (90, .inl (fun _ => 0))) (fun _ => rfl) (by decide) (by decide) (Nat.le_of_ble_eq_true rfl) (n := h + 7) (by rw [List.length_append, List.length_cons, hh]; rfl) (by rw [B.2.1]; exact (Nat.le_of_ble_eq_true rfl)) (by rw [B.2.1]; exact (Nat.le_of_ble_eq_true rfl)) dX13_init_66 rfl ?_
  refine GoC.eq (app_mid _ _ _ _) ?_
  refine c_putF (np := 71) B.1 B.2.2.2.2.1 h (ci := 14) (fs := [.ref (xb (fX K) + (h + 1)), .ref (xb (fX K) + (h + 2)), .ref (xb (fX K) + (h + 3)), .ref (xb (fX K) + (h + 4)), .ref (xb (fX K) + (h + 5)), .ref (xb (fX K) + (h + 6)), .int 0, .int 0, .int (-1), .int (-1), .int 0, .int 0, .int 0, .null, .int 0, .null, .null, .int 0, .int 0, .int 0]) (at_mid hh _ _) (C := "YarnMillModel") (T := TX13) (N := 20) rfl inX13 tyX13 tyX13_ok nmX13 13 (by decide) b_1763 rfl rfl (v := .ref (xb (fX K) + (h + 7))) (ty := (.array .int)) (by decide +kernel) rfl rfl (Nat.le_of_ble_eq_true rfl) dX13_init_68 rfl ?_
  refine GoC.eq (set_mid hh _ (.inr (14, [.ref (xb (fX K) + (h + 1)), .ref (xb (fX K) + (h + 2)), .ref (xb (fX K) + (h + 3)), .ref (xb (fX K) + (h + 4)), .ref (xb (fX K) + (h + 5)), .ref (xb (fX K) + (h + 6)), .int 0, .int 0, .int (-1), .int (-1), .int 0, .int 0, .int 0, .ref (xb (fX K) + (h + 7)), .int 0, .null, .null, .int 0, .int 0, .int 0])) _) ?_
  refine c_aload_n (np := 72) B.1 dX13_init_71 rfl rfl ?_
  refine c_bipush (v := 60) (np := 74) B.1 dX13_init_72 (by decide) rfl ?_
  refine c_newa (np := 76) B.1 0 (atype := .int) (ty := .int) rfl rfl (fun _ => rfl) b_144 (N := 60) (a0 := (60, .inl (fun _ => 0))) (fun _ => rfl) (by decide) (by decide) (Nat.le_of_ble_eq_true rfl) (n := h + 8) (by rw [List.length_append, List.length_cons, hh]; rfl) (by rw [B.2.1]; exact (Nat.le_of_ble_eq_true rfl)) (by rw [B.2.1]; exact (Nat.le_of_ble_eq_true rfl)) dX13_init_74 rfl ?_
  refine GoC.eq (app_mid _ _ _ _) ?_
  refine c_putF (np := 79) B.1 B.2.2.2.2.1 h (ci := 14) (fs := [.ref (xb (fX K) + (h + 1)), .ref (xb (fX K) + (h + 2)), .ref (xb (fX K) + (h + 3)), .ref (xb (fX K) + (h + 4)), .ref (xb (fX K) + (h + 5)), .ref (xb (fX K) + (h + 6)), .int 0, .int 0, .int (-1), .int (-1), .int 0, .int 0, .int 0, .ref (xb (fX K) + (h + 7)), .int 0, .null, .null, .int 0, .int 0, .int 0]) (at_mid hh _ _) (C := "YarnMillModel") (T := TX13) (N := 20) rfl inX13 tyX13 tyX13_ok nmX13 15 (by decide) b_1765 rfl rfl (v := .ref (xb (fX K) + (h + 8))) (ty := (.array .int)) (by decide +kernel) rfl rfl (Nat.le_of_ble_eq_true rfl) dX13_init_76 rfl ?_
  refine GoC.eq (set_mid hh _ (.inr (14, [.ref (xb (fX K) + (h + 1)), .ref (xb (fX K) + (h + 2)), .ref (xb (fX K) + (h + 3)), .ref (xb (fX K) + (h + 4)), .ref (xb (fX K) + (h + 5)), .ref (xb (fX K) + (h + 6)), .int 0, .int 0, .int (-1), .int (-1), .int 0, .int 0, .int 0, .ref (xb (fX K) + (h + 7)), .int 0, .ref (xb (fX K) + (h + 8)), .null, .int 0, .int 0, .int 0])) _) ?_
  refine c_aload_n (np := 80) B.1 dX13_init_79 rfl rfl ?_
  refine c_bipush (v := 124) (np := 82) B.1 dX13_init_80 (by decide) rfl ?_
  refine c_newa (np := 84) B.1 0 (atype := .int) (ty := .int) rfl rfl (fun _ => rfl) b_144 (N := 124) (a0 := (124, .inl (fun _ => 0))) (fun _ => rfl) (by decide) (by decide) (Nat.le_of_ble_eq_true rfl) (n := h + 9) (by rw [List.length_append, List.length_cons, hh]; rfl) (by rw [B.2.1]; exact (Nat.le_of_ble_eq_true rfl)) (by rw [B.2.1]; exact (Nat.le_of_ble_eq_true rfl)) dX13_init_82 rfl ?_
  refine GoC.eq (app_mid _ _ _ _) ?_
  refine c_putF (np := 87) B.1 B.2.2.2.2.1 h (ci := 14) (fs := [.ref (xb (fX K) + (h + 1)), .ref (xb (fX K) + (h + 2)), .ref (xb (fX K) + (h + 3)), .ref (xb (fX K) + (h + 4)), .ref (xb (fX K) + (h + 5)), .ref (xb (fX K) + (h + 6)), .int 0, .int 0, .int (-1), .int (-1), .int 0, .int 0, .int 0, .ref (xb (fX K) + (h + 7)), .int 0, .ref (xb (fX K) + (h + 8)), .null, .int 0, .int 0, .int 0]) (at_mid hh _ _) (C := "YarnMillModel") (T := TX13) (N := 20) rfl inX13 tyX13 tyX13_ok nmX13 16 (by decide) b_1766 rfl rfl (v := .ref (xb (fX K) + (h + 9))) (ty := (.array .int)) (by decide +kernel) rfl rfl (Nat.le_of_ble_eq_true rfl) dX13_init_84 rfl ?_
  refine GoC.eq (set_mid hh _ (.inr (14, [.ref (xb (fX K) + (h + 1)), .ref (xb (fX K) + (h + 2)), .ref (xb (fX K) + (h + 3)), .ref (xb (fX K) + (h + 4)), .ref (xb (fX K) + (h + 5)), .ref (xb (fX K) + (h + 6)), .int 0, .int 0, .int (-1), .int (-1), .int 0, .int 0, .int 0, .ref (xb (fX K) + (h + 7)), .int 0, .ref (xb (fX K) + (h + 8)), .ref (xb (fX K) + (h + 9)), .int 0, .int 0, .int 0])) _) ?_
  refine c_aload_n (np := 88) B.1 dX13_init_87 rfl rfl ?_
  refine c_get (np := 91) B.1 h (ci := 14) (fs := [.ref (xb (fX K) + (h + 1)), .ref (xb (fX K) + (h + 2)), .ref (xb (fX K) + (h + 3)), .ref (xb (fX K) + (h + 4)), .ref (xb (fX K) + (h + 5)), .ref (xb (fX K) + (h + 6)), .int 0, .int 0, .int (-1), .int (-1), .int 0, .int 0, .int 0, .ref (xb (fX K) + (h + 7)), .int 0, .ref (xb (fX K) + (h + 8)), .ref (xb (fX K) + (h + 9)), .int 0, .int 0, .int 0]) (at_mid hh _ _) (C := "YarnMillModel") (T := TX13) (N := 20) rfl inX13 0 (by decide) b_1750 (v := .ref (xb (fX K) + (h + 1))) rfl dX13_init_88 rfl ?_
  refine c_iconst (v := 0) (np := 92) B.1 dX13_init_91 (by decide) rfl ?_
  refine c_sipush (v := 1000) (np := 95) B.1 dX13_init_92 (by decide) rfl ?_
  refine c_iast (np := 96) B.1 (h + (1 + 0)) (n := 90) (f := (fun _ => 0)) ((at_mid1 hh 0 _ _).trans rfl) (vpl (by decide)) dX13_init_95 rfl ?_
  refine GoC.eq (cs' := pre ++ (.inr (14, [.ref (xb (fX K) + (h + 1)), .ref (xb (fX K) + (h + 2)), .ref (xb (fX K) + (h + 3)), .ref (xb (fX K) + (h + 4)), .ref (xb (fX K) + (h + 5)), .ref (xb (fX K) + (h + 6)), .int 0, .int 0, .int (-1), .int (-1), .int 0, .int 0, .int 0, .ref (xb (fX K) + (h + 7)), .int 0, .ref (xb (fX K) + (h + 8)), .ref (xb (fX K) + (h + 9)), .int 0, .int 0, .int 0]) :: ((((((((([] ++ [.inl (xct (fX K) 0, (90, .inl (upd (fun _ => 0) 0 1000)))]) ++ [.inl (xct (fX K) 0, (90, .inl (fun _ => 0)))]) ++ [.inl (xct (fX K) 0, (90, .inl (fun _ => 0)))]) ++ [.inl (xct (fX K) 0, (720, .inl (fun _ => 0)))]) ++ [.inl (xct (fX K) 0, (3, .inl (fun _ => 0)))]) ++ [.inl (xct (fX K) 0, (144, .inl (fun _ => 0)))]) ++ [.inl (xct (fX K) 0, (90, .inl (fun _ => 0)))]) ++ [.inl (xct (fX K) 0, (60, .inl (fun _ => 0)))]) ++ [.inl (xct (fX K) 0, (124, .inl (fun _ => 0)))]))) ((set_mid1 hh 0 _ _ _).trans rfl) ?_
  refine c_aload_n (np := 97) B.1 dX13_init_96 rfl rfl ?_
  refine c_get (np := 100) B.1 h (ci := 14) (fs := [.ref (xb (fX K) + (h + 1)), .ref (xb (fX K) + (h + 2)), .ref (xb (fX K) + (h + 3)), .ref (xb (fX K) + (h + 4)), .ref (xb (fX K) + (h + 5)), .ref (xb (fX K) + (h + 6)), .int 0, .int 0, .int (-1), .int (-1), .int 0, .int 0, .int 0, .ref (xb (fX K) + (h + 7)), .int 0, .ref (xb (fX K) + (h + 8)), .ref (xb (fX K) + (h + 9)), .int 0, .int 0, .int 0]) (at_mid hh _ _) (C := "YarnMillModel") (T := TX13) (N := 20) rfl inX13 0 (by decide) b_1750 (v := .ref (xb (fX K) + (h + 1))) rfl dX13_init_97 rfl ?_
  refine c_iconst (v := 3) (np := 101) B.1 dX13_init_100 (by decide) rfl ?_
  refine c_iconst (v := 1) (np := 102) B.1 dX13_init_101 (by decide) rfl ?_
  refine c_iast (np := 103) B.1 (h + (1 + 0)) (n := 90) (f := (upd (fun _ => 0) 0 1000)) ((at_mid1 hh 0 _ _).trans rfl) (vpl (by decide)) dX13_init_102 rfl ?_
  refine GoC.eq (cs' := pre ++ (.inr (14, [.ref (xb (fX K) + (h + 1)), .ref (xb (fX K) + (h + 2)), .ref (xb (fX K) + (h + 3)), .ref (xb (fX K) + (h + 4)), .ref (xb (fX K) + (h + 5)), .ref (xb (fX K) + (h + 6)), .int 0, .int 0, .int (-1), .int (-1), .int 0, .int 0, .int 0, .ref (xb (fX K) + (h + 7)), .int 0, .ref (xb (fX K) + (h + 8)), .ref (xb (fX K) + (h + 9)), .int 0, .int 0, .int 0]) :: ((((((((([] ++ [.inl (xct (fX K) 0, (90, .inl (upd (upd (fun _ => 0) 0 1000) 3 1)))]) ++ [.inl (xct (fX K) 0, (90, .inl (fun _ => 0)))]) ++ [.inl (xct (fX K) 0, (90, .inl (fun _ => 0)))]) ++ [.inl (xct (fX K) 0, (720, .inl (fun _ => 0)))]) ++ [.inl (xct (fX K) 0, (3, .inl (fun _ => 0)))]) ++ [.inl (xct (fX K) 0, (144, .inl (fun _ => 0)))]) ++ [.inl (xct (fX K) 0, (90, .inl (fun _ => 0)))]) ++ [.inl (xct (fX K) 0, (60, .inl (fun _ => 0)))]) ++ [.inl (xct (fX K) 0, (124, .inl (fun _ => 0)))]))) ((set_mid1 hh 0 _ _ _).trans rfl) ?_
  exact c_vret B (Nat.le_of_ble_eq_true rfl) (Nat.le_of_ble_eq_true rfl) dX13_init_103 rfl
def mkStocks (x : Ctx) (h0 : Nat) : Nat → List va_E
  | 0 => []
  | n + 1 => mkStocks x h0 n ++ mkStock x (h0 + 23 * n)
theorem mkStocks_len (x : Ctx) (h0 : Nat) : ∀ n, (mkStocks x h0 n).length = 23 * n
  | 0 => rfl
  | n + 1 => by
    show (mkStocks x h0 n ++ mkStock x (h0 + 23 * n)).length = _
    rw [List.length_append, mkStocks_len x h0 n]
    show 23 * n + 23 = 23 * (n + 1)
    omega
def rgF (x : Ctx) (h0 i : Nat) : Nat → Option Nat := fun j => if j < i then some (xb x + (h0 + 23 * j)) else none
theorem rgF_up (x : Ctx) (h0 i : Nat) : va_up (rgF x h0 i) i (some (xb x + (h0 + 23 * i))) = rgF x h0 (i + 1) := by
  funext j
  unfold va_up rgF
  by_cases hj : j = i
  · subst hj
    rw [if_pos rfl, if_pos (by omega)]
  · rw [if_neg hj]
    by_cases h2 : j < i
    · rw [if_pos h2, if_pos (by omega)]
    · rw [if_neg h2, if_neg (by omega)]
def mkHistory (x : Ctx) (h : Nat) : List va_E := .inr (6, [.ref (xb x + (h + 1)), .int 0, .int 0]) :: ([.inl (xct x 4, (8, .inr (.inr (.inr (.inr (rgF x (h + 2) 8))))))] ++ mkStocks x (h + 2) 8)
theorem mkHistory_len (x : Ctx) (h : Nat) : (mkHistory x h).length = 2 + 23 * 8 := by
  unfold mkHistory
  rw [List.length_cons, List.length_append, mkStocks_len]
  rfl
set_option maxRecDepth 20000 in
set_option maxHeartbeats 4000000 in
theorem kX4_init {l : Launch} {x : Ctx} (hl : l.stackTraces = false) (pre : List va_E) (h : Nat) (hh : pre.length = h) : MetR l x yX4_init cX4_init 2 4 91 185 1104 [.ref (xb x + h)] (pre ++ [.inr (6, [.null, .int 0, .int 0])]) (pre ++ mkHistory x h) := by
  refine MetR.of hl (by decide) rfl (Nat.le_of_ble_eq_true rfl) [some (.ref (xb x + h)), none] rfl (fun K B hx _ => ?_)
  subst hx
  have loop : ∀ (m i cells slots : Nat), i + m = 8 → cells + m * 23 ≤ 185 → slots + m * 137 ≤ 1104 → GoC K cells slots (pre ++ (.inr (6, [.ref (xb (fX K) + (h + 1)), .int 0, .int 0]) :: ([.inl (xct (fX K) 4, (8, .inr (.inr (.inr (.inr (rgF (fX K) (h + 2) i))))))] ++ mkStocks (fX K) (h + 2) i))) 15 [some (.ref (xb (fX K) + h)), some (.int (nI i))] [] := by
    intro m
    induction m with
    | zero =>
      intro i cells slots hi hc hs
      obtain rfl : i = 8 := by omega
      refine c_iload_n (np := 16) B.1 dX4_init_15 rfl rfl ?_
      refine c_aload_n (np := 17) B.1 dX4_init_16 rfl rfl ?_
      refine c_get (np := 20) B.1 h (ci := 6) (fs := [.ref (xb (fX K) + (h + 1)), .int 0, .int 0]) (at_mid hh _ _) (C := "YarnMill$History") (T := TX4) (N := 3) rfl inX4 0 (by decide) b_264 (v := .ref (xb (fX K) + (h + 1))) rfl dX4_init_17 rfl ?_
      refine c_alen (np := 21) B.1 (h + (1 + 0)) ((at_mid1 hh 0 _ _).trans rfl) (t0 := 4) rfl (v := nI 8) rfl dX4_init_20 rfl ?_
      refine c_icmp_ge (np := 24) (tgt := 43) B.1 dX4_init_21 (by decide) rfl (fun _ => ?_) (fun q => absurd (by decide) q)
      exact c_vret B (by omega) (by omega) dX4_init_43 rfl
    | succ m ih =>
      intro i cells slots hi hc hs
      refine c_iload_n (np := 16) B.1 dX4_init_15 rfl rfl ?_
      refine c_aload_n (np := 17) B.1 dX4_init_16 rfl rfl ?_
      refine c_get (np := 20) B.1 h (ci := 6) (fs := [.ref (xb (fX K) + (h + 1)), .int 0, .int 0]) (at_mid hh _ _) (C := "YarnMill$History") (T := TX4) (N := 3) rfl inX4 0 (by decide) b_264 (v := .ref (xb (fX K) + (h + 1))) rfl dX4_init_17 rfl ?_
      refine c_alen (np := 21) B.1 (h + (1 + 0)) ((at_mid1 hh 0 _ _).trans rfl) (t0 := 4) rfl (v := nI 8) rfl dX4_init_20 rfl ?_
      refine c_icmp_ge (np := 24) (tgt := 43) B.1 dX4_init_21 (by decide) rfl (fun q => absurd q (nI_ge (by omega) (by omega))) (fun _ => ?_)
      refine c_aload_n (np := 25) B.1 dX4_init_24 rfl rfl ?_
      refine c_get (np := 28) B.1 h (ci := 6) (fs := [.ref (xb (fX K) + (h + 1)), .int 0, .int 0]) (at_mid hh _ _) (C := "YarnMill$History") (T := TX4) (N := 3) rfl inX4 0 (by decide) b_264 (v := .ref (xb (fX K) + (h + 1))) rfl dX4_init_25 rfl ?_
      refine c_iload_n (np := 29) B.1 dX4_init_28 rfl rfl ?_
      have hlen : (pre ++ (.inr (6, [.ref (xb (fX K) + (h + 1)), .int 0, .int 0]) :: ([.inl (xct (fX K) 4, (8, .inr (.inr (.inr (.inr (rgF (fX K) (h + 2) i))))))] ++ mkStocks (fX K) (h + 2) i)) : List va_E).length = h + 2 + 23 * i := by
        rw [List.length_append, List.length_cons, List.length_append, mkStocks_len, hh]
        simp only [List.length_cons, List.length_nil]
        omega
      refine c_new (np := 32) B.1 (ci := 11) (C := "YarnMill$Stock") (T := TX10) (N := 12) rfl (fs := [.null, .null, .null, .int 0, .int 0, .int 0, .int 0, .int 0, .int 0, .int 0, .int 0, .int 0]) inX10 tyX10 tyX10_ok (by intro j hj; match j, hj with | 0, _ => rfl | 1, _ => rfl | 2, _ => rfl | 3, _ => rfl | 4, _ => rfl | 5, _ => rfl | 6, _ => rfl | 7, _ => rfl | 8, _ => rfl | 9, _ => rfl | 10, _ => rfl | 11, _ => rfl | _ + 12, hj => exact absurd hj (by omega)) b_261 b_117 b_71 (n := h + 2 + 23 * i) hlen (by rw [B.2.1]; show cells + 1 ≤ 185; omega) (by rw [B.2.1]; show slots + 12 ≤ 1104; omega) dX4_init_29 rfl ?_
      refine c_dup (np := 33) B.1 dX4_init_32 rfl rfl ?_
      refine c_callN (np := 36) B.1 B.2.2.2.2.2 (n := 0) (As := []) (kX10_init B.1.tr _ (h + 2 + 23 * i) hlen) b_120 t_263 b_119 b_71 rfl (by decide +kernel) rfl (by rw [B.2.1]; exact (Nat.le_of_ble_eq_true rfl)) (by rw [B.2.1]; exact (Nat.le_of_ble_eq_true rfl)) (Nat.le_of_ble_eq_true rfl) dX4_init_33 (by rw [B.2.1]; show cells + 1 + 22 ≤ 185; omega) (by rw [B.2.1]; show slots + 12 + 125 ≤ 1104; omega) rfl ?_
      refine GoC.eq (app_mid _ _ _ _) ?_
      refine c_astq (np := 37) B.1 (h + (1 + 0)) (h + 2 + 23 * i) 11 (t0 := 4) (r := (RX10, TX10, 12)) ((at_mid1 hh 0 _ _).trans rfl) rfl (vs := [.ref (xb (fX K) + (h + 2 + 23 * i + 1)), .ref (xb (fX K) + (h + 2 + 23 * i + 12)), .ref (xb (fX K) + (h + 2 + 23 * i + 21)), .int 0, .int 1, .int 0, .int 1000, .int 0, .int 0, .int 0, .int 0, .int 0]) ?_ rfl (vp_in_nI (by omega) (by decide)) dX4_init_36 rfl ?_
      · rw [← app_mid, List.getElem?_append_right (by rw [hlen]; exact Nat.le_refl _), hlen, Nat.sub_self]
        rfl
      rw [nI_clamp (by omega), rgF_up (fX K) (h + 2) i]
      refine GoC.eq ((set_mid1 hh 0 _ _ _).trans rfl) ?_
      refine c_iinc (v := nI (i + 1)) (lv' := [some (.ref (xb (fX K) + h)), some (.int (nI (i + 1)))]) (np := 40) B.1 dX4_init_37 rfl (nI_1 i) (by decide) rfl rfl rfl ?_
      refine c_goto (tgt := 15) B.1 dX4_init_40 (by decide) ?_
      refine GoC.eq ?_ (ih (i + 1) (cells + 1 + 22) (slots + 12 + 125) (by omega) (by omega) (by omega))
      show pre ++ (.inr (6, [.ref (xb (fX K) + (h + 1)), .int 0, .int 0]) :: (.inl (xct (fX K) 4, (8, .inr (.inr (.inr (.inr (rgF (fX K) (h + 2) (i + 1))))))) :: (mkStocks (fX K) (h + 2) i ++ mkStock (fX K) (h + 2 + 23 * i)))) = _
      rfl
  refine c_aload_n (np := 1) B.1 dX4_init_0 rfl rfl ?_
  refine c_objInit (np := 4) B.1 b_260 b_114 b_115 (by rw [B.2.1]; exact (Nat.le_of_ble_eq_true rfl)) (by rw [B.2.1]; exact (Nat.le_of_ble_eq_true rfl)) dX4_init_1 rfl ?_
  refine c_aload_n (np := 5) B.1 dX4_init_4 rfl rfl ?_
  refine c_bipush (v := 8) (np := 7) B.1 dX4_init_5 (by decide) rfl ?_
  refine c_newq (np := 10) B.1 4 (C := "YarnMill$Stock") rfl b_261 B.2.2.2.2.2.1 (N := 8) (by decide) (by decide) (Nat.le_of_ble_eq_true rfl) (n := h + 1) (by rw [List.length_append, List.length_cons, hh]; rfl) (by rw [B.2.1]; exact (Nat.le_of_ble_eq_true rfl)) (by rw [B.2.1]; exact (Nat.le_of_ble_eq_true rfl)) dX4_init_7 rfl ?_
  refine GoC.eq (app_mid _ _ _ _) ?_
  refine c_putF (np := 13) B.1 B.2.2.2.2.1 h (ci := 6) (fs := [.null, .int 0, .int 0]) (at_mid hh _ _) (C := "YarnMill$History") (T := TX4) (N := 3) rfl inX4 tyX4 tyX4_ok nmX4 0 (by decide) b_264 rfl rfl (v := .ref (xb (fX K) + (h + 1))) (ty := .array (.object "YarnMill$Stock")) (by decide +kernel) rfl rfl (Nat.le_of_ble_eq_true rfl) dX4_init_10 rfl ?_
  refine GoC.eq (set_mid hh _ (.inr (6, [.ref (xb (fX K) + (h + 1)), .int 0, .int 0])) _) ?_
  refine c_iconst (v := 0) (np := 14) B.1 dX4_init_13 (by decide) rfl ?_
  refine c_istore_n (lv' := [some (.ref (xb (fX K) + h)), some (.int 0)]) (np := 15) B.1 dX4_init_14 (by decide) rfl rfl rfl ?_
  refine GoC.eq ?_ (loop 8 0 1 8 rfl (Nat.le_of_ble_eq_true rfl) (Nat.le_of_ble_eq_true rfl))
  have e0 : (fun _ => none : Nat → Option Nat) = rgF (fX K) (h + 2) 0 := by
    funext j
    unfold rgF
    rw [if_neg (Nat.not_lt_zero j)]
  rw [e0]
  rfl

