/-! THE START: what the Statement gives of the statics -/
def gvL : List Cond := flatC (Jvm.Cond.and given_1 narrow_1)
abbrev tCm (i : Nat) : Term := .static "YarnMill$Command" (cmNames.getD i "") "LYarnMill$Command;"
abbrev tRf (i : Nat) : Term := .static "YarnMill$Refusal" (rfNames.getD i "") "LYarnMill$Refusal;"
abbrev tSt (i : Nat) : Term := .string (stTx.getD i ("", 0, "")).1 (stTx.getD i ("", 0, "")).2.1
abbrev tSw : Term := .static "YarnMill$1" "$SwitchMap$YarnMill$Command" "[I"
abbrev tAl : Term := .static "YarnMill$Command" "ALL" "[LYarnMill$Command;"
abbrev tDo : Term := .static "java/lang/Integer" "DigitOnes" "[B"
abbrev tDt : Term := .static "java/lang/Integer" "DigitTens" "[B"
theorem gvAt {k : Nat} {c : Cond} (h : gvL[k]? = some c) : c ∈ gvL := List.mem_of_getElem? h
set_option maxRecDepth 100000 in
set_option maxHeartbeats 0 in
theorem gw_c1 : ∀ i : Nat, i < 9 → gvL[([217, 267, 279, 337, 321, 292, 354, 372, 306] : List Nat).getD i 0]? = some (Cond.exactly (tCm i) "YarnMill$Command") := by decide +kernel
set_option maxRecDepth 100000 in
set_option maxHeartbeats 0 in
theorem gv_c1 : ∀ i : Nat, i < 9 → Cond.exactly (tCm i) "YarnMill$Command" ∈ gvL := fun i hi => gvAt (gw_c1 i hi)
set_option maxRecDepth 100000 in
set_option maxHeartbeats 0 in
theorem gw_r1 : ∀ i : Nat, i < 6 → gvL[([246, 234, 237, 241, 252, 259] : List Nat).getD i 0]? = some (Cond.exactly (tRf i) "YarnMill$Refusal") := by decide +kernel
set_option maxRecDepth 100000 in
set_option maxHeartbeats 0 in
theorem gv_r1 : ∀ i : Nat, i < 6 → Cond.exactly (tRf i) "YarnMill$Refusal" ∈ gvL := fun i hi => gvAt (gw_r1 i hi)
set_option maxRecDepth 100000 in
set_option maxHeartbeats 0 in
theorem gw_w : ∀ i : Nat, i < 9 → gvL[([219, 269, 281, 339, 323, 294, 356, 374, 308] : List Nat).getD i 0]? = some (Cond.eq (.field (tCm i) "YarnMill$Command" "word" "Ljava/lang/String;") (tSt i)) := by decide +kernel
set_option maxRecDepth 100000 in
set_option maxHeartbeats 0 in
theorem gv_w : ∀ i : Nat, i < 9 → Cond.eq (.field (tCm i) "YarnMill$Command" "word" "Ljava/lang/String;") (tSt i) ∈ gvL := fun i hi => gvAt (gw_w i hi)
set_option maxRecDepth 100000 in
set_option maxHeartbeats 0 in
theorem gw_c2_0 : ∀ i : Nat, i < 9 → gvL[([218, 268, 280, 338, 322, 293, 355, 373, 307] : List Nat).getD i 0]? = some (Cond.eq (.field (tCm i) "java/lang/Enum" "ordinal" "I") (.int (([0, 1, 2, 3, 4, 5, 6, 7, 8] : List Int32).getD i 0))) := by decide +kernel
set_option maxRecDepth 100000 in
set_option maxHeartbeats 0 in
theorem gw_c2_1 : ∀ i : Nat, i < 9 → gvL[([220, 270, 282, 340, 324, 295, 357, 375, 309] : List Nat).getD i 0]? = some (Cond.eq (.field (tCm i) "YarnMill$Command" "numbers" "I") (.int (([3, 2, 2, 1, 1, 1, 1, 0, 1] : List Int32).getD i 0))) := by decide +kernel
set_option maxRecDepth 100000 in
set_option maxHeartbeats 0 in
theorem gw_c2_2 : ∀ i : Nat, i < 9 → gvL[([221, 271, 283, 341, 325, 296, 358, 376, 310] : List Nat).getD i 0]? = some (Cond.eq (.field (tCm i) "YarnMill$Command" "digits" "I") (.int (([3, 3, 3, 3, 1, 3, 3, 0, 3] : List Int32).getD i 0))) := by decide +kernel
set_option maxRecDepth 100000 in
set_option maxHeartbeats 0 in
theorem gv_c2 : ∀ q ∈ cmF, ∀ i : Nat, i < 9 → Cond.eq (.field (tCm i) q.1 q.2.1 q.2.2.1) (.int (q.2.2.2.getD i 0)) ∈ gvL := by
  intro q hq i hi
  rcases List.mem_cons.mp hq with rfl | hq
  · exact gvAt (gw_c2_0 i hi)
  rcases List.mem_cons.mp hq with rfl | hq
  · exact gvAt (gw_c2_1 i hi)
  rcases List.mem_cons.mp hq with rfl | hq
  · exact gvAt (gw_c2_2 i hi)
  exact absurd hq List.not_mem_nil
set_option maxRecDepth 100000 in
set_option maxHeartbeats 0 in
theorem gw_c3 : ∀ i : Nat, i < 9 → ∀ j : Nat, j < 9 → i ≠ j → gvL[([0, 272, 284, 342, 326, 297, 359, 377, 311, 272, 0, 291, 349, 333, 304, 366, 384, 318, 284, 291, 0, 350, 334, 305, 367, 385, 319, 342, 349, 350, 0, 353, 351, 371, 389, 352, 326, 333, 334, 353, 0, 335, 370, 388, 336, 297, 304, 305, 351, 335, 0, 368, 386, 320, 359, 366, 367, 371, 370, 368, 0, 390, 369, 377, 384, 385, 389, 388, 386, 390, 0, 387, 311, 318, 319, 352, 336, 320, 369, 387, 0] : List Nat).getD (9 * i + j) 0]? = some (Cond.not (.eq (tCm i) (tCm j))) ∨ gvL[([0, 272, 284, 342, 326, 297, 359, 377, 311, 272, 0, 291, 349, 333, 304, 366, 384, 318, 284, 291, 0, 350, 334, 305, 367, 385, 319, 342, 349, 350, 0, 353, 351, 371, 389, 352, 326, 333, 334, 353, 0, 335, 370, 388, 336, 297, 304, 305, 351, 335, 0, 368, 386, 320, 359, 366, 367, 371, 370, 368, 0, 390, 369, 377, 384, 385, 389, 388, 386, 390, 0, 387, 311, 318, 319, 352, 336, 320, 369, 387, 0] : List Nat).getD (9 * i + j) 0]? = some (Cond.not (.eq (tCm j) (tCm i))) := by decide +kernel
set_option maxRecDepth 100000 in
set_option maxHeartbeats 0 in
theorem gv_c3 : ∀ i : Nat, i < 9 → ∀ j : Nat, j < 9 → i ≠ j → Cond.not (.eq (tCm i) (tCm j)) ∈ gvL ∨ Cond.not (.eq (tCm j) (tCm i)) ∈ gvL := fun i hi j hj hn => (gw_c3 i hi j hj hn).imp gvAt gvAt
set_option maxRecDepth 100000 in
set_option maxHeartbeats 0 in
theorem gw_r3 : ∀ i : Nat, i < 6 → ∀ j : Nat, j < 6 → i ≠ j → gvL[([0, 249, 250, 251, 258, 265, 249, 0, 240, 244, 255, 262, 250, 240, 0, 245, 256, 263, 251, 244, 245, 0, 257, 264, 258, 255, 256, 257, 0, 266, 265, 262, 263, 264, 266, 0] : List Nat).getD (6 * i + j) 0]? = some (Cond.not (.eq (tRf i) (tRf j))) ∨ gvL[([0, 249, 250, 251, 258, 265, 249, 0, 240, 244, 255, 262, 250, 240, 0, 245, 256, 263, 251, 244, 245, 0, 257, 264, 258, 255, 256, 257, 0, 266, 265, 262, 263, 264, 266, 0] : List Nat).getD (6 * i + j) 0]? = some (Cond.not (.eq (tRf j) (tRf i))) := by decide +kernel
set_option maxRecDepth 100000 in
set_option maxHeartbeats 0 in
theorem gv_r3 : ∀ i : Nat, i < 6 → ∀ j : Nat, j < 6 → i ≠ j → Cond.not (.eq (tRf i) (tRf j)) ∈ gvL ∨ Cond.not (.eq (tRf j) (tRf i)) ∈ gvL := fun i hi j hj hn => (gw_r3 i hi j hj hn).imp gvAt gvAt
set_option maxRecDepth 100000 in
set_option maxHeartbeats 0 in
theorem gw_sw0 : gvL[223]? = some (Cond.arrayOf tSw .int) ∧ gvL[224]? = some (Cond.eq (.length tSw) (.int (Int32.ofNat 9))) := by decide +kernel
set_option maxRecDepth 100000 in
set_option maxHeartbeats 0 in
theorem gw_sw : ∀ j : Nat, j < 9 → gvL[225 + j]? = some (Cond.eq (.elem tSw (.int (Int32.ofNat j))) (.int (nI (j + 1)))) := by decide +kernel
set_option maxRecDepth 100000 in
set_option maxHeartbeats 0 in
theorem gv_sw : Cond.arrayOf tSw .int ∈ gvL ∧ Cond.eq (.length tSw) (.int (Int32.ofNat 9)) ∈ gvL ∧ ∀ j : Nat, j < 9 → Cond.eq (.elem tSw (.int (Int32.ofNat j))) (.int (nI (j + 1))) ∈ gvL := ⟨gvAt gw_sw0.1, gvAt gw_sw0.2, fun j hj => gvAt (gw_sw j hj)⟩
set_option maxRecDepth 100000 in
set_option maxHeartbeats 0 in
theorem gw_al0 : gvL[393]? = some (Cond.arrayOf tAl (.object "YarnMill$Command")) ∧ gvL[394]? = some (Cond.eq (.length tAl) (.int (Int32.ofNat 9))) := by decide +kernel
set_option maxRecDepth 100000 in
set_option maxHeartbeats 0 in
theorem gw_al : ∀ j : Nat, j < 9 → gvL[396 + j]? = some (Cond.eq (.elem tAl (.int (Int32.ofNat j))) (tCm j)) := by decide +kernel
set_option maxRecDepth 100000 in
set_option maxHeartbeats 0 in
theorem gv_al : Cond.arrayOf tAl (.object "YarnMill$Command") ∈ gvL ∧ Cond.eq (.length tAl) (.int (Int32.ofNat 9)) ∈ gvL ∧ ∀ j : Nat, j < 9 → Cond.eq (.elem tAl (.int (Int32.ofNat j))) (tCm j) ∈ gvL := ⟨gvAt gw_al0.1, gvAt gw_al0.2, fun j hj => gvAt (gw_al j hj)⟩
set_option maxRecDepth 100000 in
set_option maxHeartbeats 0 in
theorem gw_do0 : gvL[10]? = some (Cond.arrayOf tDo .byte) ∧ gvL[11]? = some (Cond.eq (.length tDo) (.int (Int32.ofNat 100))) := by decide +kernel
set_option maxRecDepth 100000 in
set_option maxHeartbeats 0 in
theorem gw_do : ∀ j : Nat, j < 100 → gvL[12 + j]? = some (Cond.eq (.elem tDo (.int (Int32.ofNat j))) (.int (digOnes j))) := by decide +kernel
set_option maxRecDepth 100000 in
set_option maxHeartbeats 0 in
theorem gv_do : Cond.arrayOf tDo .byte ∈ gvL ∧ Cond.eq (.length tDo) (.int (Int32.ofNat 100)) ∈ gvL ∧ ∀ j : Nat, j < 100 → Cond.eq (.elem tDo (.int (Int32.ofNat j))) (.int (digOnes j)) ∈ gvL := ⟨gvAt gw_do0.1, gvAt gw_do0.2, fun j hj => gvAt (gw_do j hj)⟩
set_option maxRecDepth 100000 in
set_option maxHeartbeats 0 in
theorem gw_dt0 : gvL[113]? = some (Cond.arrayOf tDt .byte) ∧ gvL[114]? = some (Cond.eq (.length tDt) (.int (Int32.ofNat 100))) := by decide +kernel
set_option maxRecDepth 100000 in
set_option maxHeartbeats 0 in
theorem gw_dt : ∀ j : Nat, j < 100 → gvL[115 + j]? = some (Cond.eq (.elem tDt (.int (Int32.ofNat j))) (.int (digTens j))) := by decide +kernel
set_option maxRecDepth 100000 in
set_option maxHeartbeats 0 in
theorem gv_dt : Cond.arrayOf tDt .byte ∈ gvL ∧ Cond.eq (.length tDt) (.int (Int32.ofNat 100)) ∈ gvL ∧ ∀ j : Nat, j < 100 → Cond.eq (.elem tDt (.int (Int32.ofNat j))) (.int (digTens j)) ∈ gvL := ⟨gvAt gw_dt0.1, gvAt gw_dt0.2, fun j hj => gvAt (gw_dt j hj)⟩
set_option maxRecDepth 100000 in
set_option maxHeartbeats 0 in
theorem gw_s1_0 : ∀ i : Nat, i < 18 → gvL[([1366, 1376, 1386, 1429, 1415, 1397, 1440, 1452, 1406, 1126, 1135, 1151, 1158, 1168, 1180, 1191, 1202, 1215] : List Nat).getD i 0]? = some (Cond.exactly (tSt i) "java/lang/String") := by decide +kernel
set_option maxRecDepth 100000 in
set_option maxHeartbeats 0 in
theorem gw_s1_1 : ∀ i : Nat, i < 18 → gvL[([1367, 1377, 1387, 1430, 1416, 1398, 1441, 1453, 1407, 1127, 1136, 1152, 1159, 1169, 1181, 1192, 1203, 1216] : List Nat).getD i 0]? = some (Cond.eq (.field (tSt i) "java/lang/String" "coder" "B") (.int 0)) := by decide +kernel
set_option maxRecDepth 100000 in
set_option maxHeartbeats 0 in
theorem gw_s1_2 : ∀ i : Nat, i < 18 → gvL[([1368, 1378, 1388, 1431, 1417, 1399, 1442, 1454, 1408, 1128, 1137, 1153, 1160, 1170, 1182, 1193, 1204, 1217] : List Nat).getD i 0]? = some (Cond.arrayOf (.field (tSt i) "java/lang/String" "value" "[B") .byte) := by decide +kernel
set_option maxRecDepth 100000 in
set_option maxHeartbeats 0 in
theorem gw_s1_3 : ∀ i : Nat, i < 18 → gvL[([1369, 1379, 1389, 1432, 1418, 1400, 1443, 1455, 1409, 1129, 1138, 1154, 1161, 1171, 1183, 1194, 1205, 1218] : List Nat).getD i 0]? = some (Cond.eq (.length (.field (tSt i) "java/lang/String" "value" "[B")) (.int (Int32.ofNat (stLen.getD i 0)))) := by decide +kernel
set_option maxRecDepth 100000 in
set_option maxHeartbeats 0 in
theorem gv_s1 : ∀ i : Nat, i < 18 → Cond.exactly (tSt i) "java/lang/String" ∈ gvL ∧ Cond.eq (.field (tSt i) "java/lang/String" "coder" "B") (.int 0) ∈ gvL ∧ Cond.arrayOf (.field (tSt i) "java/lang/String" "value" "[B") .byte ∈ gvL ∧ Cond.eq (.length (.field (tSt i) "java/lang/String" "value" "[B")) (.int (Int32.ofNat (stLen.getD i 0))) ∈ gvL := fun i hi => ⟨gvAt (gw_s1_0 i hi), gvAt (gw_s1_1 i hi), gvAt (gw_s1_2 i hi), gvAt (gw_s1_3 i hi)⟩
set_option maxRecDepth 100000 in
set_option maxHeartbeats 0 in
theorem gw_s2 : ∀ i : Nat, i < 18 → ∀ j : Nat, j < stLen.getD i 0 → gvL[([1370, 1380, 1390, 1433, 1419, 1401, 1444, 1456, 1410, 1130, 1139, 1155, 1162, 1172, 1184, 1195, 1206, 1219] : List Nat).getD i 0 + j]? = some (Cond.eq (.elem (.field (tSt i) "java/lang/String" "value" "[B") (.int (Int32.ofNat j))) (.int ((stByt.getD i []).getD j 0))) := by decide +kernel
set_option maxRecDepth 100000 in
set_option maxHeartbeats 0 in
theorem gv_s2 : ∀ i : Nat, i < 18 → ∀ j : Nat, j < stLen.getD i 0 → Cond.eq (.elem (.field (tSt i) "java/lang/String" "value" "[B") (.int (Int32.ofNat j))) (.int ((stByt.getD i []).getD j 0)) ∈ gvL := fun i hi j hj => gvAt (gw_s2 i hi j hj)
set_option maxRecDepth 100000 in
set_option maxHeartbeats 0 in
theorem gw_ex : ∀ q ∈ exTx.zip ([648, 683, 729, 776, 807, 849, 874, 897, 925, 949, 974, 1020, 1046, 1083, 1224, 1257, 1286, 1332] : List Nat), gvL[q.2]? = some (Cond.exactly (.string "YarnMill" q.1.1) "java/lang/String") := by decide +kernel
set_option maxRecDepth 100000 in
set_option maxHeartbeats 0 in
theorem gv_ex : ∀ q ∈ exTx, Cond.exactly (.string "YarnMill" q.1) "java/lang/String" ∈ gvL := by
  intro q hq
  obtain ⟨i, hi, rfl⟩ := List.getElem_of_mem hq
  have hz : (exTx[i], ([648, 683, 729, 776, 807, 849, 874, 897, 925, 949, 974, 1020, 1046, 1083, 1224, 1257, 1286, 1332] : List Nat)[i]'hi) ∈ exTx.zip ([648, 683, 729, 776, 807, 849, 874, 897, 925, 949, 974, 1020, 1046, 1083, 1224, 1257, 1286, 1332] : List Nat) := by
    rw [List.mem_iff_getElem]
    refine ⟨i, ?_, ?_⟩
    · rw [List.length_zip]
      exact Nat.lt_min.mpr ⟨hi, hi⟩
    · rw [List.getElem_zip]
      rfl
  exact gvAt (gw_ex _ hz)
set_option maxRecDepth 100000 in
set_option maxHeartbeats 0 in
theorem gw_z0 : gvL[215]? = some (Cond.isRef (.static Bundle.tN "UNASSIGNED_STACK" Bundle.steD)) := by decide +kernel
set_option maxRecDepth 100000 in
set_option maxHeartbeats 0 in
theorem gw_z1 : gvL[216]? = some (Cond.isRef (.static Bundle.tN "SUPPRESSED_SENTINEL" Bundle.listD)) := by decide +kernel
set_option maxRecDepth 100000 in
set_option maxHeartbeats 0 in
theorem gw_z2 : gvL[5]? = some (Cond.isRef (.static "jdk/internal/util/Preconditions" "SIOOBE_FORMATTER" "Ljava/util/function/BiFunction;")) := by decide +kernel
set_option maxRecDepth 100000 in
set_option maxHeartbeats 0 in
theorem gw_z3 : gvL[4]? = some (Cond.eq (.static "java/lang/String" "COMPACT_STRINGS" "Z") (.int 1)) := by decide +kernel
set_option maxRecDepth 100000 in
set_option maxHeartbeats 0 in
theorem gv_z : Cond.isRef (.static Bundle.tN "UNASSIGNED_STACK" Bundle.steD) ∈ gvL ∧ Cond.isRef (.static Bundle.tN "SUPPRESSED_SENTINEL" Bundle.listD) ∈ gvL ∧ Cond.isRef (.static "jdk/internal/util/Preconditions" "SIOOBE_FORMATTER" "Ljava/util/function/BiFunction;") ∈ gvL ∧ Cond.eq (.static "java/lang/String" "COMPACT_STRINGS" "Z") (.int 1) ∈ gvL := ⟨gvAt gw_z0, gvAt gw_z1, gvAt gw_z2, gvAt gw_z3⟩
set_option maxRecDepth 100000 in
set_option maxHeartbeats 0 in
theorem gw_nc : ∀ i : Nat, i < 5 → ∀ j : Nat, j < 5 → i ≠ j → gvL[([0, 438, 458, 478, 498, 418, 0, 459, 479, 499, 419, 439, 0, 480, 500, 420, 440, 460, 0, 501, 421, 441, 461, 481, 0] : List Nat).getD (5 * i + j) 0]? = some (Cond.not (.castable (xcNames.getD i "") (xcNames.getD j ""))) := by decide +kernel
set_option maxRecDepth 100000 in
set_option maxHeartbeats 0 in
theorem gv_nc : ∀ a ∈ xcNames, ∀ b ∈ xcNames, a ≠ b → Cond.not (.castable a b) ∈ gvL := by
  intro a ha b hb hn
  obtain ⟨i, hi, rfl⟩ := List.getElem_of_mem ha
  obtain ⟨j, hj, rfl⟩ := List.getElem_of_mem hb
  have h := gw_nc i hi j hj (fun e => hn (by subst e; rfl))
  rw [List.getD_eq_getElem?_getD (l := xcNames), List.getD_eq_getElem?_getD (l := xcNames), List.getElem?_eq_getElem hi, List.getElem?_eq_getElem hj] at h
  exact gvAt h
