/-! THE START: what the Statement gives of the statics -/
def gvL : List Cond := flatC (Jvm.Cond.and given_1 narrow_1)
abbrev tCm (i : Nat) : Term := .static "YarnMill$Command" (cmNames.getD i "") "LYarnMill$Command;"
abbrev tRf (i : Nat) : Term := .static "YarnMill$Refusal" (rfNames.getD i "") "LYarnMill$Refusal;"
abbrev tSt (i : Nat) : Term := .string (stTx.getD i ("", 0, "")).1 (stTx.getD i ("", 0, "")).2.1
abbrev tSw : Term := .static "YarnMill$1" "$SwitchMap$YarnMill$Command" "[I"
abbrev tAl : Term := .static "YarnMill$Command" "ALL" "[LYarnMill$Command;"
abbrev tDo : Term := .static "java/lang/Integer" "DigitOnes" "[B"
abbrev tDt : Term := .static "java/lang/Integer" "DigitTens" "[B"
theorem gvAt {k : Nat} {c : Cond} (h : gvL[k]? = some c) : c ∈ gvL := List.mem_of_getElem? h
set_option maxRecDepth 100000 in
set_option maxHeartbeats 0 in
theorem gw_c1 : ∀ i : Nat, i < 9 → gvL[([217, 267, 279, 292, 306, 321, 337, 354, 372] : List Nat).getD i 0]? = some (Cond.exactly (tCm i) "YarnMill$Command") := by decide +kernel
set_option maxRecDepth 100000 in
set_option maxHeartbeats 0 in
theorem gv_c1 : ∀ i : Nat, i < 9 → Cond.exactly (tCm i) "YarnMill$Command" ∈ gvL := fun i hi => gvAt (gw_c1 i hi)
set_option maxRecDepth 100000 in
set_option maxHeartbeats 0 in
theorem gw_r1 : ∀ i : Nat, i < 6 → gvL[([246, 234, 237, 241, 252, 259] : List Nat).getD i 0]? = some (Cond.exactly (tRf i) "YarnMill$Refusal") := by decide +kernel
set_option maxRecDepth 100000 in
set_option maxHeartbeats 0 in
theorem gv_r1 : ∀ i : Nat, i < 6 → Cond.exactly (tRf i) "YarnMill$Refusal" ∈ gvL := fun i hi => gvAt (gw_r1 i hi)
set_option maxRecDepth 100000 in
set_option maxHeartbeats 0 in
theorem gw_w : ∀ i : Nat, i < 9 → gvL[([219, 269, 281, 294, 308, 323, 339, 356, 374] : List Nat).getD i 0]? = some (Cond.eq (.field (tCm i) "YarnMill$Command" "word" "Ljava/lang/String;") (tSt i)) := by decide +kernel
set_option maxRecDepth 100000 in
set_option maxHeartbeats 0 in
theorem gv_w : ∀ i : Nat, i < 9 → Cond.eq (.field (tCm i) "YarnMill$Command" "word" "Ljava/lang/String;") (tSt i) ∈ gvL := fun i hi => gvAt (gw_w i hi)
set_option maxRecDepth 100000 in
set_option maxHeartbeats 0 in
theorem gw_c2_0 : ∀ i : Nat, i < 9 → gvL[([218, 268, 280, 293, 307, 322, 338, 355, 373] : List Nat).getD i 0]? = some (Cond.eq (.field (tCm i) "java/lang/Enum" "ordinal" "I") (.int (([0, 1, 2, 3, 4, 5, 6, 7, 8] : List Int32).getD i 0))) := by decide +kernel
set_option maxRecDepth 100000 in
set_option maxHeartbeats 0 in
theorem gw_c2_1 : ∀ i : Nat, i < 9 → gvL[([220, 270, 282, 295, 309, 324, 340, 357, 375] : List Nat).getD i 0]? = some (Cond.eq (.field (tCm i) "YarnMill$Command" "numbers" "I") (.int (([3, 2, 2, 1, 1, 1, 1, 0, 1] : List Int32).getD i 0))) := by decide +kernel
set_option maxRecDepth 100000 in
set_option maxHeartbeats 0 in
theorem gw_c2_2 : ∀ i : Nat, i < 9 → gvL[([221, 271, 283, 296, 310, 325, 341, 358, 376] : List Nat).getD i 0]? = some (Cond.eq (.field (tCm i) "YarnMill$Command" "digits" "I") (.int (([3, 3, 3, 3, 1, 3, 3, 0, 3] : List Int32).getD i 0))) := by decide +kernel
set_option maxRecDepth 100000 in
set_option maxHeartbeats 0 in
theorem gv_c2 : ∀ q ∈ cmF, ∀ i : Nat, i < 9 → Cond.eq (.field (tCm i) q.1 q.2.1 q.2.2.1) (.int (q.2.2.2.getD i 0)) ∈ gvL := by
  intro q hq i hi
  rcases List.mem_cons.mp hq with rfl | hq
  · exact gvAt (gw_c2_0 i hi)
  rcases List.mem_cons.mp hq with rfl | hq
  · exact gvAt (gw_c2_1 i hi)
  rcases List.mem_cons.mp hq with rfl | hq
  · exact gvAt (gw_c2_2 i hi)
  exact absurd hq List.not_mem_nil
set_option maxRecDepth 100000 in
set_option maxHeartbeats 0 in
theorem gw_c3 : ∀ i : Nat, i < 9 → ∀ j : Nat, j < 9 → i ≠ j → gvL[([0, 272, 284, 297, 311, 326, 342, 359, 377, 272, 0, 291, 304, 318, 333, 349, 366, 384, 284, 291, 0, 305, 319, 334, 350, 367, 385, 297, 304, 305, 0, 320, 335, 351, 368, 386, 311, 318, 319, 320, 0, 336, 352, 369, 387, 326, 333, 334, 335, 336, 0, 353, 370, 388, 342, 349, 350, 351, 352, 353, 0, 371, 389, 359, 366, 367, 368, 369, 370, 371, 0, 390, 377, 384, 385, 386, 387, 388, 389, 390, 0] : List Nat).getD (9 * i + j) 0]? = some (Cond.not (.eq (tCm i) (tCm j))) ∨ gvL[([0, 272, 284, 297, 311, 326, 342, 359, 377, 272, 0, 291, 304, 318, 333, 349, 366, 384, 284, 291, 0, 305, 319, 334, 350, 367, 385, 297, 304, 305, 0, 320, 335, 351, 368, 386, 311, 318, 319, 320, 0, 336, 352, 369, 387, 326, 333, 334, 335, 336, 0, 353, 370, 388, 342, 349, 350, 351, 352, 353, 0, 371, 389, 359, 366, 367, 368, 369, 370, 371, 0, 390, 377, 384, 385, 386, 387, 388, 389, 390, 0] : List Nat).getD (9 * i + j) 0]? = some (Cond.not (.eq (tCm j) (tCm i))) := by decide +kernel
set_option maxRecDepth 100000 in
set_option maxHeartbeats 0 in
theorem gv_c3 : ∀ i : Nat, i < 9 → ∀ j : Nat, j < 9 → i ≠ j → Cond.not (.eq (tCm i) (tCm j)) ∈ gvL ∨ Cond.not (.eq (tCm j) (tCm i)) ∈ gvL := fun i hi j hj hn => (gw_c3 i hi j hj hn).imp gvAt gvAt
set_option maxRecDepth 100000 in
set_option maxHeartbeats 0 in
theorem gw_r3 : ∀ i : Nat, i < 6 → ∀ j : Nat, j < 6 → i ≠ j → gvL[([0, 249, 250, 251, 258, 265, 249, 0, 240, 244, 255, 262, 250, 240, 0, 245, 256, 263, 251, 244, 245, 0, 257, 264, 258, 255, 256, 257, 0, 266, 265, 262, 263, 264, 266, 0] : List Nat).getD (6 * i + j) 0]? = some (Cond.not (.eq (tRf i) (tRf j))) ∨ gvL[([0, 249, 250, 251, 258, 265, 249, 0, 240, 244, 255, 262, 250, 240, 0, 245, 256, 263, 251, 244, 245, 0, 257, 264, 258, 255, 256, 257, 0, 266, 265, 262, 263, 264, 266, 0] : List Nat).getD (6 * i + j) 0]? = some (Cond.not (.eq (tRf j) (tRf i))) := by decide +kernel
set_option maxRecDepth 100000 in
set_option maxHeartbeats 0 in
theorem gv_r3 : ∀ i : Nat, i < 6 → ∀ j : Nat, j < 6 → i ≠ j → Cond.not (.eq (tRf i) (tRf j)) ∈ gvL ∨ Cond.not (.eq (tRf j) (tRf i)) ∈ gvL := fun i hi j hj hn => (gw_r3 i hi j hj hn).imp gvAt gvAt
set_option maxRecDepth 100000 in
set_option maxHeartbeats 0 in
theorem gw_sw0 : gvL[223]? = some (Cond.arrayOf tSw .int) ∧ gvL[224]? = some (Cond.eq (.length tSw) (.int (Int32.ofNat 9))) := by decide +kernel
set_option maxRecDepth 100000 in
set_option maxHeartbeats 0 in
theorem gw_sw : ∀ j : Nat, j < 9 → gvL[225 + j]? = some (Cond.eq (.elem tSw (.int (Int32.ofNat j))) (.int (nI (j + 1)))) := by decide +kernel
set_option maxRecDepth 100000 in
set_option maxHeartbeats 0 in
theorem gv_sw : Cond.arrayOf tSw .int ∈ gvL ∧ Cond.eq (.length tSw) (.int (Int32.ofNat 9)) ∈ gvL ∧ ∀ j : Nat, j < 9 → Cond.eq (.elem tSw (.int (Int32.ofNat j))) (.int (nI (j + 1))) ∈ gvL := ⟨gvAt gw_sw0.1, gvAt gw_sw0.2, fun j hj => gvAt (gw_sw j hj)⟩
set_option maxRecDepth 100000 in
set_option maxHeartbeats 0 in
theorem gw_al0 : gvL[393]? = some (Cond.arrayOf tAl (.object "YarnMill$Command")) ∧ gvL[394]? = some (Cond.eq (.length tAl) (.int (Int32.ofNat 9))) := by decide +kernel
set_option maxRecDepth 100000 in
set_option maxHeartbeats 0 in
theorem gw_al : ∀ j : Nat, j < 9 → gvL[396 + j]? = some (Cond.eq (.elem tAl (.int (Int32.ofNat j))) (tCm j)) := by decide +kernel
set_option maxRecDepth 100000 in
set_option maxHeartbeats 0 in
theorem gv_al : Cond.arrayOf tAl (.object "YarnMill$Command") ∈ gvL ∧ Cond.eq (.length tAl) (.int (Int32.ofNat 9)) ∈ gvL ∧ ∀ j : Nat, j < 9 → Cond.eq (.elem tAl (.int (Int32.ofNat j))) (tCm j) ∈ gvL := ⟨gvAt gw_al0.1, gvAt gw_al0.2, fun j hj => gvAt (gw_al j hj)⟩
set_option maxRecDepth 100000 in
set_option maxHeartbeats 0 in
theorem gw_do0 : gvL[10]? = some (Cond.arrayOf tDo .byte) ∧ gvL[11]? = some (Cond.eq (.length tDo) (.int (Int32.ofNat 100))) := by decide +kernel
set_option maxRecDepth 100000 in
set_option maxHeartbeats 0 in
theorem gw_do : ∀ j : Nat, j < 100 → gvL[12 + j]? = some (Cond.eq (.elem tDo (.int (Int32.ofNat j))) (.int (digOnes j))) := by decide +kernel
set_option maxRecDepth 100000 in
set_option maxHeartbeats 0 in
theorem gv_do : Cond.arrayOf tDo .byte ∈ gvL ∧ Cond.eq (.length tDo) (.int (Int32.ofNat 100)) ∈ gvL ∧ ∀ j : Nat, j < 100 → Cond.eq (.elem tDo (.int (Int32.ofNat j))) (.int (digOnes j)) ∈ gvL := ⟨gvAt gw_do0.1, gvAt gw_do0.2, fun j hj => gvAt (gw_do j hj)⟩
set_option maxRecDepth 100000 in
set_option maxHeartbeats 0 in
theorem gw_dt0 : gvL[113]? = some (Cond.arrayOf tDt .byte) ∧ gvL[114]? = some (Cond.eq (.length tDt) (.int (Int32.ofNat 100))) := by decide +kernel
set_option maxRecDepth 100000 in
set_option maxHeartbeats 0 in
theorem gw_dt : ∀ j : Nat, j < 100 → gvL[115 + j]? = some (Cond.eq (.elem tDt (.int (Int32.ofNat j))) (.int (digTens j))) := by decide +kernel
set_option maxRecDepth 100000 in
set_option maxHeartbeats 0 in
theorem gv_dt : Cond.arrayOf tDt .byte ∈ gvL ∧ Cond.eq (.length tDt) (.int (Int32.ofNat 100)) ∈ gvL ∧ ∀ j : Nat, j < 100 → Cond.eq (.elem tDt (.int (Int32.ofNat j))) (.int (digTens j)) ∈ gvL := ⟨gvAt gw_dt0.1, gvAt gw_dt0.2, fun j hj => gvAt (gw_dt j hj)⟩
set_option maxRecDepth 100000 in
set_option maxHeartbeats 0 in
theorem gw_s1_0 : ∀ i : Nat, i < 19 → gvL[([1491, 1500, 1510, 1520, 1531, 1544, 1553, 1564, 1572, 1110, 1423, 1429, 1437, 1443, 1448, 1456, 1464, 1473, 1484] : List Nat).getD i 0]? = some (Cond.exactly (tSt i) "java/lang/String") := by decide +kernel
set_option maxRecDepth 100000 in
set_option maxHeartbeats 0 in
theorem gw_s1_1 : ∀ i : Nat, i < 19 → gvL[([1492, 1501, 1511, 1521, 1532, 1545, 1554, 1565, 1573, 1111, 1424, 1430, 1438, 1444, 1449, 1457, 1465, 1474, 1485] : List Nat).getD i 0]? = some (Cond.eq (.field (tSt i) "java/lang/String" "coder" "B") (.int 0)) := by decide +kernel
set_option maxRecDepth 100000 in
set_option maxHeartbeats 0 in
theorem gw_s1_2 : ∀ i : Nat, i < 19 → gvL[([1493, 1502, 1512, 1522, 1533, 1546, 1555, 1566, 1574, 1112, 1425, 1431, 1439, 1445, 1450, 1458, 1466, 1475, 1486] : List Nat).getD i 0]? = some (Cond.arrayOf (.field (tSt i) "java/lang/String" "value" "[B") .byte) := by decide +kernel
set_option maxRecDepth 100000 in
set_option maxHeartbeats 0 in
theorem gw_s1_3 : ∀ i : Nat, i < 19 → gvL[([1494, 1503, 1513, 1523, 1534, 1547, 1556, 1567, 1575, 1113, 1426, 1432, 1440, 1446, 1451, 1459, 1467, 1476, 1487] : List Nat).getD i 0]? = some (Cond.eq (.length (.field (tSt i) "java/lang/String" "value" "[B")) (.int (Int32.ofNat (stLen.getD i 0)))) := by decide +kernel
set_option maxRecDepth 100000 in
set_option maxHeartbeats 0 in
theorem gv_s1 : ∀ i : Nat, i < 19 → Cond.exactly (tSt i) "java/lang/String" ∈ gvL ∧ Cond.eq (.field (tSt i) "java/lang/String" "coder" "B") (.int 0) ∈ gvL ∧ Cond.arrayOf (.field (tSt i) "java/lang/String" "value" "[B") .byte ∈ gvL ∧ Cond.eq (.length (.field (tSt i) "java/lang/String" "value" "[B")) (.int (Int32.ofNat (stLen.getD i 0))) ∈ gvL := fun i hi => ⟨gvAt (gw_s1_0 i hi), gvAt (gw_s1_1 i hi), gvAt (gw_s1_2 i hi), gvAt (gw_s1_3 i hi)⟩
set_option maxRecDepth 100000 in
set_option maxHeartbeats 0 in
theorem gw_s2 : ∀ i : Nat, i < 19 → ∀ j : Nat, j < stLen.getD i 0 → gvL[([1495, 1504, 1514, 1524, 1535, 1548, 1557, 1568, 1576, 1114, 1427, 1433, 1441, 1447, 1452, 1460, 1468, 1477, 1488] : List Nat).getD i 0 + j]? = some (Cond.eq (.elem (.field (tSt i) "java/lang/String" "value" "[B") (.int (Int32.ofNat j))) (.int ((stByt.getD i []).getD j 0))) := by decide +kernel
set_option maxRecDepth 100000 in
set_option maxHeartbeats 0 in
theorem gv_s2 : ∀ i : Nat, i < 19 → ∀ j : Nat, j < stLen.getD i 0 → Cond.eq (.elem (.field (tSt i) "java/lang/String" "value" "[B") (.int (Int32.ofNat j))) (.int ((stByt.getD i []).getD j 0)) ∈ gvL := fun i hi j hj => gvAt (gw_s2 i hi j hj)
set_option maxRecDepth 100000 in
set_option maxHeartbeats 0 in
theorem gw_ex : ∀ q ∈ exTx.zip ([684, 719, 765, 812, 843, 885, 922, 947, 972, 1018, 1044, 1087, 1117, 1154, 1187, 1216, 1262, 1296, 1334, 1371, 1399] : List Nat), gvL[q.2]? = some (Cond.exactly (.string "YarnMill" q.1.1) "java/lang/String") := by decide +kernel
set_option maxRecDepth 100000 in
set_option maxHeartbeats 0 in
theorem gv_ex : ∀ q ∈ exTx, Cond.exactly (.string "YarnMill" q.1) "java/lang/String" ∈ gvL := by
  intro q hq
  obtain ⟨i, hi, rfl⟩ := List.getElem_of_mem hq
  have hz : (exTx[i], ([684, 719, 765, 812, 843, 885, 922, 947, 972, 1018, 1044, 1087, 1117, 1154, 1187, 1216, 1262, 1296, 1334, 1371, 1399] : List Nat)[i]'hi) ∈ exTx.zip ([684, 719, 765, 812, 843, 885, 922, 947, 972, 1018, 1044, 1087, 1117, 1154, 1187, 1216, 1262, 1296, 1334, 1371, 1399] : List Nat) := by
    rw [List.mem_iff_getElem]
    refine ⟨i, ?_, ?_⟩
    · rw [List.length_zip]
      exact Nat.lt_min.mpr ⟨hi, hi⟩
    · rw [List.getElem_zip]
      rfl
  exact gvAt (gw_ex _ hz)
set_option maxRecDepth 100000 in
set_option maxHeartbeats 0 in
theorem gw_z0 : gvL[215]? = some (Cond.isRef (.static Bundle.tN "UNASSIGNED_STACK" Bundle.steD)) := by decide +kernel
set_option maxRecDepth 100000 in
set_option maxHeartbeats 0 in
theorem gw_z1 : gvL[216]? = some (Cond.isRef (.static Bundle.tN "SUPPRESSED_SENTINEL" Bundle.listD)) := by decide +kernel
set_option maxRecDepth 100000 in
set_option maxHeartbeats 0 in
theorem gw_z2 : gvL[5]? = some (Cond.isRef (.static "jdk/internal/util/Preconditions" "SIOOBE_FORMATTER" "Ljava/util/function/BiFunction;")) := by decide +kernel
set_option maxRecDepth 100000 in
set_option maxHeartbeats 0 in
theorem gw_z3 : gvL[4]? = some (Cond.eq (.static "java/lang/String" "COMPACT_STRINGS" "Z") (.int 1)) := by decide +kernel
set_option maxRecDepth 100000 in
set_option maxHeartbeats 0 in
theorem gv_z : Cond.isRef (.static Bundle.tN "UNASSIGNED_STACK" Bundle.steD) ∈ gvL ∧ Cond.isRef (.static Bundle.tN "SUPPRESSED_SENTINEL" Bundle.listD) ∈ gvL ∧ Cond.isRef (.static "jdk/internal/util/Preconditions" "SIOOBE_FORMATTER" "Ljava/util/function/BiFunction;") ∈ gvL ∧ Cond.eq (.static "java/lang/String" "COMPACT_STRINGS" "Z") (.int 1) ∈ gvL := ⟨gvAt gw_z0, gvAt gw_z1, gvAt gw_z2, gvAt gw_z3⟩
set_option maxRecDepth 100000 in
set_option maxHeartbeats 0 in
theorem gw_nc : ∀ i : Nat, i < 6 → ∀ j : Nat, j < 6 → i ≠ j → gvL[([0, 441, 463, 485, 507, 527, 419, 0, 464, 486, 508, 528, 420, 442, 0, 487, 509, 529, 421, 443, 465, 0, 510, 530, 422, 444, 466, 488, 0, 531, 424, 446, 468, 490, 511, 0] : List Nat).getD (6 * i + j) 0]? = some (Cond.not (.castable (xcNames.getD i "") (xcNames.getD j ""))) := by decide +kernel
set_option maxRecDepth 100000 in
set_option maxHeartbeats 0 in
theorem gv_nc : ∀ a ∈ xcNames, ∀ b ∈ xcNames, a ≠ b → Cond.not (.castable a b) ∈ gvL := by
  intro a ha b hb hn
  obtain ⟨i, hi, rfl⟩ := List.getElem_of_mem ha
  obtain ⟨j, hj, rfl⟩ := List.getElem_of_mem hb
  have h := gw_nc i hi j hj (fun e => hn (by subst e; rfl))
  rw [List.getD_eq_getElem?_getD (l := xcNames), List.getD_eq_getElem?_getD (l := xcNames), List.getElem?_eq_getElem hi, List.getElem?_eq_getElem hj] at h
  exact gvAt h
