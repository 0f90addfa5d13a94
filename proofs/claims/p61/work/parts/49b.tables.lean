/-! THE START: the tables' words -/
set_option maxRecDepth 100000 in
set_option maxHeartbeats 0 in
theorem tb_c : ∀ i : Nat, i < 9 → Cond.laysStatic "YarnMill$Command" (cmNames.getD i "") "LYarnMill$Command;" ∈ lw_tbl := by decide +kernel
set_option maxRecDepth 100000 in
set_option maxHeartbeats 0 in
theorem tb_r : ∀ i : Nat, i < 6 → Cond.laysStatic "YarnMill$Refusal" (rfNames.getD i "") "LYarnMill$Refusal;" ∈ lw_tbl := by decide +kernel
set_option maxRecDepth 100000 in
set_option maxHeartbeats 0 in
theorem tb_i : ∀ c ∈ ["YarnMill$Command", "YarnMill$Refusal", "YarnMill$1", "java/lang/Integer", "java/lang/String", Bundle.tN, "jdk/internal/util/Preconditions"], Cond.initialized c ∈ lw_tbl := by decide +kernel
set_option maxRecDepth 100000 in
set_option maxHeartbeats 0 in
theorem tb_l : Cond.laysStatic "YarnMill$1" "$SwitchMap$YarnMill$Command" "[I" ∈ lw_tbl ∧ Cond.laysStatic "YarnMill$Command" "ALL" "[LYarnMill$Command;" ∈ lw_tbl ∧ Cond.laysStatic "java/lang/Integer" "DigitOnes" "[B" ∈ lw_tbl ∧ Cond.laysStatic "java/lang/Integer" "DigitTens" "[B" ∈ lw_tbl ∧ Cond.laysStatic "java/lang/String" "COMPACT_STRINGS" "Z" ∈ lw_tbl ∧ Cond.laysStatic Bundle.tN "UNASSIGNED_STACK" Bundle.steD ∈ lw_tbl ∧ Cond.laysStatic Bundle.tN "SUPPRESSED_SENTINEL" Bundle.listD ∈ lw_tbl ∧ Cond.laysStatic "jdk/internal/util/Preconditions" "SIOOBE_FORMATTER" "Ljava/util/function/BiFunction;" ∈ lw_tbl := by decide +kernel
set_option maxRecDepth 100000 in
set_option maxHeartbeats 0 in
theorem tb_s : ∀ i : Nat, i < 18 → Cond.stringRef (stTx.getD i ("", 0, "")).1 (stTx.getD i ("", 0, "")).2.1 (stTx.getD i ("", 0, "")).2.2 ∈ lw_tbl := by decide +kernel
set_option maxRecDepth 100000 in
set_option maxHeartbeats 0 in
theorem tb_e : ∀ q ∈ exTx, Cond.stringRef "YarnMill" q.1 q.2 ∈ lw_tbl := by decide +kernel
set_option maxRecDepth 100000 in
set_option maxHeartbeats 0 in
theorem tb_ao : Cond.arrayOver (.object "YarnMill$Stock") ∈ lw_tbl ∧ Cond.arrayOver (.object "YarnMill$Command") ∈ lw_tbl := by decide +kernel
set_option maxRecDepth 100000 in
set_option maxHeartbeats 0 in
theorem tb_p : ∀ y ∈ lw_sb, Cond.privateMethod y ∈ lw_tbl ∧ Cond.instanceMethod y ∈ lw_tbl ∧ y.cls = asbN := by decide +kernel
set_option maxRecDepth 100000 in
set_option maxHeartbeats 0 in
theorem tb_q : Cond.selects "java/lang/StringBuilder" yJ5_isLatin1_aae02 yJ5_isLatin1_aae02 ∈ lw_tbl ∧ Cond.instanceMethod yJ5_isLatin1_aae02 ∈ lw_tbl := by decide +kernel
