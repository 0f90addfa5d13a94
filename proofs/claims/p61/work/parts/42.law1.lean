/-! THE LAW'S OWN METHODS -/
theorem b_25 : Cond.initialized "YarnMillLaw" ∈ lw_good := bB 25 (by decide +kernel) (by decide +kernel)
theorem b_938 : Cond.methodLink "YarnMillLaw" 83 yL_cell ∈ lw_good := bB 938 (by decide +kernel) (by decide +kernel)
theorem b_939 : Cond.static yL_cell ∈ lw_good := bB 939 (by decide +kernel) (by decide +kernel)
theorem b_940 : Cond.code yL_cell cL_cell 3 (some .int) ∈ lw_good := bB 940 (by decide +kernel) (by decide +kernel)
theorem b_941 : Cond.constant "YarnMillLaw" 7 (69069 : Int32) ∈ lw_good := bB 941 (by decide +kernel) (by decide +kernel)
theorem b_942 : Cond.constant "YarnMillLaw" 8 (1103515245 : Int32) ∈ lw_good := bB 942 (by decide +kernel) (by decide +kernel)
theorem b_943 : Cond.constant "YarnMillLaw" 89 (2147483647 : Int32) ∈ lw_good := bB 943 (by decide +kernel) (by decide +kernel)
theorem b_1246 : Cond.methodLink "YarnMillLaw" 126 yX12_baleCount ∈ lw_good := bB 1246 (by decide +kernel) (by decide +kernel)
theorem b_1247 : Cond.instanceMethod yX12_baleCount ∈ lw_good := bB 1247 (by decide +kernel) (by decide +kernel)
theorem b_1248 : Cond.selects "YarnMill" yX12_baleCount yX12_baleCount ∈ lw_good := bB 1248 (by decide +kernel) (by decide +kernel)
theorem b_1249 : Cond.code yX12_baleCount cX12_baleCount 1 (some .int) ∈ lw_good := bB 1249 (by decide +kernel) (by decide +kernel)
theorem b_1250 : Cond.methodLink "YarnMillLaw" 129 yX12_baleAt ∈ lw_good := bB 1250 (by decide +kernel) (by decide +kernel)
theorem b_1251 : Cond.instanceMethod yX12_baleAt ∈ lw_good := bB 1251 (by decide +kernel) (by decide +kernel)
theorem b_1252 : Cond.selects "YarnMill" yX12_baleAt yX12_baleAt ∈ lw_good := bB 1252 (by decide +kernel) (by decide +kernel)
theorem b_1253 : Cond.code yX12_baleAt cX12_baleAt 2 (some .int) ∈ lw_good := bB 1253 (by decide +kernel) (by decide +kernel)
theorem b_1258 : Cond.methodLink "YarnMillLaw" 132 yX12_orderCount ∈ lw_good := bB 1258 (by decide +kernel) (by decide +kernel)
theorem b_1259 : Cond.instanceMethod yX12_orderCount ∈ lw_good := bB 1259 (by decide +kernel) (by decide +kernel)
theorem b_1260 : Cond.selects "YarnMill" yX12_orderCount yX12_orderCount ∈ lw_good := bB 1260 (by decide +kernel) (by decide +kernel)
theorem b_1261 : Cond.code yX12_orderCount cX12_orderCount 1 (some .int) ∈ lw_good := bB 1261 (by decide +kernel) (by decide +kernel)
theorem b_1262 : Cond.methodLink "YarnMillLaw" 135 yX12_orderAt ∈ lw_good := bB 1262 (by decide +kernel) (by decide +kernel)
theorem b_1263 : Cond.instanceMethod yX12_orderAt ∈ lw_good := bB 1263 (by decide +kernel) (by decide +kernel)
theorem b_1264 : Cond.selects "YarnMill" yX12_orderAt yX12_orderAt ∈ lw_good := bB 1264 (by decide +kernel) (by decide +kernel)
theorem b_1265 : Cond.code yX12_orderAt cX12_orderAt 2 (some .int) ∈ lw_good := bB 1265 (by decide +kernel) (by decide +kernel)
theorem gc_YLaw_83 {K : Fr} {cells slots : Nat} {σ : Mem} {cc : ByteArray} {nL pc fr lo mc ms : Nat} {ret : Option FieldType} {Qm : Option Value → Mem → Prop} {E : String → Mem → Prop} {lv : List (Option Value)} {st : List Value} (B : Bd K cc "YarnMillLaw" nL ret fr lo mc ms Qm E) (S : Scr) (hS : scr (fX K) = S) {a2 : Int32} {Q : Int32 → Mem → Prop} (hM : MetG (fL K) (fX K) yL_cell cL_cell 3 (some .int) 0 0 0 0 [.ref (xen (fX K) 5 0), .int a2] σ (RI Q) E) (hfr : 1 ≤ fr) (hlo : 22 ≤ lo) (hst : (st.map fun v => v.category).sum ≤ 8) (hc : cells ≤ mc) (hs : slots ≤ ms) (hdg : decode cc pc = .ok (.invokestatic 83, 3)) {np : Nat} (hp : pc + 3 = np) (kk : ∀ (r : Int32) (τ : Mem), Q r τ → Go K cells slots τ np lv (.int r :: st)) : Go K cells slots σ pc lv (.int a2 :: .ref (xen (fX K) 5 0) :: st) := g_callS B (n := 2) hM b_940 b_938 b_939 b_25 (by decide +kernel) rfl hfr hlo hst hdg hc hs (fun _ _ q => q) hp (fun r τ ⟨i, e, q⟩ => by subst e; exact kk i τ q)
theorem gc_YLaw_126 {K : Fr} {cells slots : Nat} {σ : Mem} {cc : ByteArray} {nL pc fr lo mc ms : Nat} {ret : Option FieldType} {Qm : Option Value → Mem → Prop} {E : String → Mem → Prop} {lv : List (Option Value)} {st : List Value} (B : Bd K cc "YarnMillLaw" nL ret fr lo mc ms Qm E)    {Q : Int32 → Mem → Prop} (hM : MetG (fL K) (fX K) yX12_baleCount cX12_baleCount 1 (some .int) 1 20 0 0 [.ref (xad (fX K) 14 0)] σ (RI Q) E) (hfr : 2 ≤ fr) (hlo : 40 ≤ lo) (hst : (st.map fun v => v.category).sum ≤ 8) (hc : cells ≤ mc) (hs : slots ≤ ms) (hdg : decode cc pc = .ok (.invokevirtual 126, 3)) {np : Nat} (hp : pc + 3 = np) (kk : ∀ (r : Int32) (τ : Mem), Q r τ → Go K cells slots τ np lv (.int r :: st)) : Go K cells slots σ pc lv (.ref (xad (fX K) 14 0) :: st) := g_callV B 14 0 (by decide : (0 : Nat) < 1) rfl rfl rfl hM b_1249 b_1246 b_1247 b_1248 b_26 (n := 0) (by decide +kernel) rfl hfr hlo hst hdg hc hs (fun _ _ q => q) hp (fun r τ ⟨i, e, q⟩ => by subst e; exact kk i τ q)
theorem gc_YLaw_129 {K : Fr} {cells slots : Nat} {σ : Mem} {cc : ByteArray} {nL pc fr lo mc ms : Nat} {ret : Option FieldType} {Qm : Option Value → Mem → Prop} {E : String → Mem → Prop} {lv : List (Option Value)} {st : List Value} (B : Bd K cc "YarnMillLaw" nL ret fr lo mc ms Qm E)   {a1 : Int32} {Q : Int32 → Mem → Prop} (hM : MetG (fL K) (fX K) yX12_baleAt cX12_baleAt 2 (some .int) 6 82 1 6 [.ref (xad (fX K) 14 0), .int a1] σ (RI Q) E) (hfr : 7 ≤ fr) (hlo : 103 ≤ lo) (hst : (st.map fun v => v.category).sum ≤ 8) (hc : cells + 1 ≤ mc) (hs : slots + 6 ≤ ms) (hdg : decode cc pc = .ok (.invokevirtual 129, 3)) {np : Nat} (hp : pc + 3 = np) (kk : ∀ (r : Int32) (τ : Mem), Q r τ → Go K (cells + 1) (slots + 6) τ np lv (.int r :: st)) : Go K cells slots σ pc lv (.int a1 :: .ref (xad (fX K) 14 0) :: st) := g_callV B 14 0 (by decide : (0 : Nat) < 1) rfl rfl rfl hM b_1253 b_1250 b_1251 b_1252 b_26 (n := 1) (by decide +kernel) rfl hfr hlo hst hdg hc hs (fun _ _ q => q) hp (fun r τ ⟨i, e, q⟩ => by subst e; exact kk i τ q)
theorem gc_YLaw_132 {K : Fr} {cells slots : Nat} {σ : Mem} {cc : ByteArray} {nL pc fr lo mc ms : Nat} {ret : Option FieldType} {Qm : Option Value → Mem → Prop} {E : String → Mem → Prop} {lv : List (Option Value)} {st : List Value} (B : Bd K cc "YarnMillLaw" nL ret fr lo mc ms Qm E)    {Q : Int32 → Mem → Prop} (hM : MetG (fL K) (fX K) yX12_orderCount cX12_orderCount 1 (some .int) 1 20 0 0 [.ref (xad (fX K) 14 0)] σ (RI Q) E) (hfr : 2 ≤ fr) (hlo : 40 ≤ lo) (hst : (st.map fun v => v.category).sum ≤ 8) (hc : cells ≤ mc) (hs : slots ≤ ms) (hdg : decode cc pc = .ok (.invokevirtual 132, 3)) {np : Nat} (hp : pc + 3 = np) (kk : ∀ (r : Int32) (τ : Mem), Q r τ → Go K cells slots τ np lv (.int r :: st)) : Go K cells slots σ pc lv (.ref (xad (fX K) 14 0) :: st) := g_callV B 14 0 (by decide : (0 : Nat) < 1) rfl rfl rfl hM b_1261 b_1258 b_1259 b_1260 b_26 (n := 0) (by decide +kernel) rfl hfr hlo hst hdg hc hs (fun _ _ q => q) hp (fun r τ ⟨i, e, q⟩ => by subst e; exact kk i τ q)
theorem gc_YLaw_135 {K : Fr} {cells slots : Nat} {σ : Mem} {cc : ByteArray} {nL pc fr lo mc ms : Nat} {ret : Option FieldType} {Qm : Option Value → Mem → Prop} {E : String → Mem → Prop} {lv : List (Option Value)} {st : List Value} (B : Bd K cc "YarnMillLaw" nL ret fr lo mc ms Qm E)   {a1 : Int32} {Q : Int32 → Mem → Prop} (hM : MetG (fL K) (fX K) yX12_orderAt cX12_orderAt 2 (some .int) 6 82 1 6 [.ref (xad (fX K) 14 0), .int a1] σ (RI Q) E) (hfr : 7 ≤ fr) (hlo : 103 ≤ lo) (hst : (st.map fun v => v.category).sum ≤ 8) (hc : cells + 1 ≤ mc) (hs : slots + 6 ≤ ms) (hdg : decode cc pc = .ok (.invokevirtual 135, 3)) {np : Nat} (hp : pc + 3 = np) (kk : ∀ (r : Int32) (τ : Mem), Q r τ → Go K (cells + 1) (slots + 6) τ np lv (.int r :: st)) : Go K cells slots σ pc lv (.int a1 :: .ref (xad (fX K) 14 0) :: st) := g_callV B 14 0 (by decide : (0 : Nat) < 1) rfl rfl rfl hM b_1265 b_1262 b_1263 b_1264 b_26 (n := 1) (by decide +kernel) rfl hfr hlo hst hdg hc hs (fun _ _ q => q) hp (fun r τ ⟨i, e, q⟩ => by subst e; exact kk i τ q)
def wL_cell (S : Scr) (a2 : Int32) (s0 : Mem) (Q : Int32 → Mem → Prop) (E : String → Mem → Prop) : Prop := ((nI S.1 ≤ a2 → ∀ v2_1 : Int32, v2_1 = ((69069 * (0 + (1009 * a2))) + 12345) → ∀ v2_2 : Int32, v2_2 = ((v2_1 ^^^ ((v2_1.toUInt32 >>> ((13 : Int32).toUInt32 &&& Int32.toUInt32 31)).toInt32)) * 1103515245) → Q (v2_2 ^^^ ((v2_2.toUInt32 >>> ((16 : Int32).toUInt32 &&& Int32.toUInt32 31)).toInt32)) s0) ∧ (¬ nI S.1 ≤ a2 → vp_in a2 S.1 ∧ ∀ v2_3 : Int32, v2_3 = ((69069 * ((S.2 a2.toNatClampNeg) + (1009 * a2))) + 12345) → ∀ v2_4 : Int32, v2_4 = ((v2_3 ^^^ ((v2_3.toUInt32 >>> ((13 : Int32).toUInt32 &&& Int32.toUInt32 31)).toInt32)) * 1103515245) → Q (v2_4 ^^^ ((v2_4.toUInt32 >>> ((16 : Int32).toUInt32 &&& Int32.toUInt32 31)).toInt32)) s0))
set_option maxRecDepth 20000 in
set_option maxHeartbeats 4000000 in
theorem oL_cell {l : Launch} {x : Ctx} (hl : l.stackTraces = false) (S : Scr) (hS : scr x = S) (a2 : Int32)  (s0 : Mem) (Q : Int32 → Mem → Prop) (E : String → Mem → Prop) (h : wL_cell S a2 s0 Q E) : MetG l x yL_cell cL_cell 3 (some .int) 0 0 0 0 [.ref (xen x 5 0), .int a2] s0 (RI Q) E := by
  refine MetG.of hl (by decide) (Nat.le_of_ble_eq_true rfl) [some (.ref (xen x 5 0)), some (.int a2), none] rfl (fun K B hx _ => ?_)
  subst hx
  unfold wL_cell at h
  refine g_ldc (np := 2) (v := 69069) B.1 b_941 dL_cell_0 rfl ?_
  refine g_iload_n (np := 3) B.1 dL_cell_2 rfl rfl ?_
  refine g_aload_n (np := 4) B.1 dL_cell_3 rfl rfl ?_
  refine g_slen (np := 5) B.1 hS dL_cell_4 rfl ?_
  refine g_icmp_ge (np := 8) (tgt := 14) B.1 dL_cell_5 (by decide) rfl (fun q => ?_) (fun q => ?_)
  · replace h := h.1 q
    refine g_iconst (np := 15) (v := 0) B.1 dL_cell_14 (by decide) rfl ?_
    refine g_sipush (np := 18) (v := 1009) B.1 dL_cell_15 (by decide) rfl ?_
    refine g_iload_n (np := 19) B.1 dL_cell_18 rfl rfl ?_
    refine g_imul (np := 20) B.1 dL_cell_19 rfl ?_
    refine g_iadd (np := 21) B.1 dL_cell_20 rfl ?_
    refine g_imul (np := 22) B.1 dL_cell_21 rfl ?_
    refine g_sipush (np := 25) (v := 12345) B.1 dL_cell_22 (by decide) rfl ?_
    refine g_iadd (np := 26) B.1 dL_cell_25 rfl ?_
    refine g_topi (fun v2_1 ev2_1 => ?_)
    replace h := h v2_1 ev2_1
    refine g_istore_n (np := 27) (lv' := [some (.ref (xen (fX K) 5 0)), some (.int a2), some (.int v2_1)]) B.1 dL_cell_26 (by decide) rfl rfl rfl ?_
    refine g_iload_n (np := 28) B.1 dL_cell_27 rfl rfl ?_
    refine g_iload_n (np := 29) B.1 dL_cell_28 rfl rfl ?_
    refine g_bipush (np := 31) (v := 13) B.1 dL_cell_29 (by decide) rfl ?_
    refine g_iushr (np := 32) B.1 dL_cell_31 rfl ?_
    refine g_ixor (np := 33) B.1 dL_cell_32 rfl ?_
    refine g_ldc (np := 35) (v := 1103515245) B.1 b_942 dL_cell_33 rfl ?_
    refine g_imul (np := 36) B.1 dL_cell_35 rfl ?_
    refine g_topi (fun v2_2 ev2_2 => ?_)
    replace h := h v2_2 ev2_2
    refine g_istore_n (np := 37) (lv' := [some (.ref (xen (fX K) 5 0)), some (.int a2), some (.int v2_2)]) B.1 dL_cell_36 (by decide) rfl rfl rfl ?_
    refine g_iload_n (np := 38) B.1 dL_cell_37 rfl rfl ?_
    refine g_iload_n (np := 39) B.1 dL_cell_38 rfl rfl ?_
    refine g_bipush (np := 41) (v := 16) B.1 dL_cell_39 (by decide) rfl ?_
    refine g_iushr (np := 42) B.1 dL_cell_41 rfl ?_
    refine g_ixor (np := 43) B.1 dL_cell_42 rfl ?_
    exact g_iret B (ty := .int) rfl rfl (Nat.le_of_ble_eq_true rfl) (Nat.le_of_ble_eq_true rfl) dL_cell_43 ⟨_, rfl, h⟩
  · replace h := h.2 q
    refine g_aload_n (np := 9) B.1 dL_cell_8 rfl rfl ?_
    refine g_iload_n (np := 10) B.1 dL_cell_9 rfl rfl ?_
    refine g_sld (np := 11) B.1 hS h.1 dL_cell_10 rfl ?_
    replace h := h.2
    refine g_goto (tgt := 15) B.1 dL_cell_11 (by decide) ?_
    refine g_sipush (np := 18) (v := 1009) B.1 dL_cell_15 (by decide) rfl ?_
    refine g_iload_n (np := 19) B.1 dL_cell_18 rfl rfl ?_
    refine g_imul (np := 20) B.1 dL_cell_19 rfl ?_
    refine g_iadd (np := 21) B.1 dL_cell_20 rfl ?_
    refine g_imul (np := 22) B.1 dL_cell_21 rfl ?_
    refine g_sipush (np := 25) (v := 12345) B.1 dL_cell_22 (by decide) rfl ?_
    refine g_iadd (np := 26) B.1 dL_cell_25 rfl ?_
    refine g_topi (fun v2_3 ev2_3 => ?_)
    replace h := h v2_3 ev2_3
    refine g_istore_n (np := 27) (lv' := [some (.ref (xen (fX K) 5 0)), some (.int a2), some (.int v2_3)]) B.1 dL_cell_26 (by decide) rfl rfl rfl ?_
    refine g_iload_n (np := 28) B.1 dL_cell_27 rfl rfl ?_
    refine g_iload_n (np := 29) B.1 dL_cell_28 rfl rfl ?_
    refine g_bipush (np := 31) (v := 13) B.1 dL_cell_29 (by decide) rfl ?_
    refine g_iushr (np := 32) B.1 dL_cell_31 rfl ?_
    refine g_ixor (np := 33) B.1 dL_cell_32 rfl ?_
    refine g_ldc (np := 35) (v := 1103515245) B.1 b_942 dL_cell_33 rfl ?_
    refine g_imul (np := 36) B.1 dL_cell_35 rfl ?_
    refine g_topi (fun v2_4 ev2_4 => ?_)
    replace h := h v2_4 ev2_4
    refine g_istore_n (np := 37) (lv' := [some (.ref (xen (fX K) 5 0)), some (.int a2), some (.int v2_4)]) B.1 dL_cell_36 (by decide) rfl rfl rfl ?_
    refine g_iload_n (np := 38) B.1 dL_cell_37 rfl rfl ?_
    refine g_iload_n (np := 39) B.1 dL_cell_38 rfl rfl ?_
    refine g_bipush (np := 41) (v := 16) B.1 dL_cell_39 (by decide) rfl ?_
    refine g_iushr (np := 42) B.1 dL_cell_41 rfl ?_
    refine g_ixor (np := 43) B.1 dL_cell_42 rfl ?_
    exact g_iret B (ty := .int) rfl rfl (Nat.le_of_ble_eq_true rfl) (Nat.le_of_ble_eq_true rfl) dL_cell_43 ⟨_, rfl, h⟩
def wL_in (S : Scr) (a2 : Int32) (a3 : Int32) (s0 : Mem) (Q : Int32 → Mem → Prop) (E : String → Mem → Prop) : Prop := wL_cell S a2 s0 (fun (r1 : Int32) (s2 : Mem) => (¬ a3 = 0) ∧ Q ((r1 &&& 2147483647) - (r1 &&& 2147483647) / a3 * a3) s2) E
set_option maxRecDepth 20000 in
set_option maxHeartbeats 4000000 in
theorem oL_in {l : Launch} {x : Ctx} (hl : l.stackTraces = false) (S : Scr) (hS : scr x = S) (a2 : Int32) (a3 : Int32)  (s0 : Mem) (Q : Int32 → Mem → Prop) (E : String → Mem → Prop) (h : wL_in S a2 a3 s0 Q E) : MetG l x yL_in cL_in 3 (some .int) 1 22 0 0 [.ref (xen x 5 0), .int a2, .int a3] s0 (RI Q) E := by
  refine MetG.of hl (by decide) (Nat.le_of_ble_eq_true rfl) [some (.ref (xen x 5 0)), some (.int a2), some (.int a3)] rfl (fun K B hx _ => ?_)
  subst hx
  unfold wL_in at h
  refine g_aload_n (np := 1) B.1 dL_in_0 rfl rfl ?_
  refine g_iload_n (np := 2) B.1 dL_in_1 rfl rfl ?_
  refine gc_YLaw_83 (np := 5) B S hS (oL_cell B.1.tr S hS a2  _ _ _ h) (Nat.le_of_ble_eq_true rfl) (Nat.le_of_ble_eq_true rfl) (Nat.le_of_ble_eq_true rfl) (Nat.le_of_ble_eq_true rfl) (Nat.le_of_ble_eq_true rfl) dL_in_2 rfl (fun r1 s2 h => ?_)
  refine g_ldc (np := 7) (v := 2147483647) B.1 b_943 dL_in_5 rfl ?_
  refine g_iand (np := 8) B.1 dL_in_7 rfl ?_
  refine g_iload_n (np := 9) B.1 dL_in_8 rfl rfl ?_
  refine g_irem (np := 10) B.1 dL_in_9 h.1 rfl ?_
  replace h := h.2
  exact g_iret B (ty := .int) rfl rfl (Nat.le_of_ble_eq_true rfl) (Nat.le_of_ble_eq_true rfl) dL_in_10 ⟨_, rfl, h⟩
def wL_bale  (a2 : Int32) (s0 : Mem) (Q : Int32 → Mem → Prop) (E : String → Mem → Prop) : Prop := wX12_baleCount   s0 (fun (r1 : Int32) (s2 : Mem) => ((r1 ≤ 0 → Q a2 s2) ∧ (¬ r1 ≤ 0 → ((9 ≤ a2 → Q a2 s2) ∧ (¬ 9 ≤ a2 → wX12_baleCount   s2 (fun (r3 : Int32) (s4 : Mem) => (¬ r3 = 0) ∧ wX12_baleAt  (a2 - a2 / r3 * r3) s4 (fun (r5 : Int32) (s6 : Mem) => Q r5 s6) E) E))))) E
set_option maxRecDepth 20000 in
set_option maxHeartbeats 4000000 in
theorem oL_bale {l : Launch} {x : Ctx} (hl : l.stackTraces = false)   (a2 : Int32)  (s0 : Mem) (Q : Int32 → Mem → Prop) (E : String → Mem → Prop) (h : wL_bale  a2 s0 Q E) : MetG l x yL_bale cL_bale 2 (some .int) 7 103 1 6 [.ref (xad x 14 0), .int a2] s0 (RI Q) E := by
  refine MetG.of hl (by decide) (Nat.le_of_ble_eq_true rfl) [some (.ref (xad x 14 0)), some (.int a2)] rfl (fun K B hx _ => ?_)
  subst hx
  unfold wL_bale at h
  refine g_aload_n (np := 1) B.1 dL_bale_0 rfl rfl ?_
  refine gc_YLaw_126 (np := 4) B   (oX12_baleCount B.1.tr     _ _ _ h) (Nat.le_of_ble_eq_true rfl) (Nat.le_of_ble_eq_true rfl) (Nat.le_of_ble_eq_true rfl) (Nat.le_of_ble_eq_true rfl) (Nat.le_of_ble_eq_true rfl) dL_bale_1 rfl (fun r1 s2 h => ?_)
  refine g_if_le (np := 7) (tgt := 26) B.1 dL_bale_4 (by decide) rfl (fun q => ?_) (fun q => ?_)
  · replace h := h.1 q
    refine g_iload_n (np := 27) B.1 dL_bale_26 rfl rfl ?_
    exact g_iret B (ty := .int) rfl rfl (Nat.le_of_ble_eq_true rfl) (Nat.le_of_ble_eq_true rfl) dL_bale_27 ⟨_, rfl, h⟩
  · replace h := h.2 q
    refine g_iload_n (np := 8) B.1 dL_bale_7 rfl rfl ?_
    refine g_bipush (np := 10) (v := 9) B.1 dL_bale_8 (by decide) rfl ?_
    refine g_icmp_ge (np := 13) (tgt := 26) B.1 dL_bale_10 (by decide) rfl (fun q => ?_) (fun q => ?_)
    · replace h := h.1 q
      refine g_iload_n (np := 27) B.1 dL_bale_26 rfl rfl ?_
      exact g_iret B (ty := .int) rfl rfl (Nat.le_of_ble_eq_true rfl) (Nat.le_of_ble_eq_true rfl) dL_bale_27 ⟨_, rfl, h⟩
    · replace h := h.2 q
      refine g_aload_n (np := 14) B.1 dL_bale_13 rfl rfl ?_
      refine g_iload_n (np := 15) B.1 dL_bale_14 rfl rfl ?_
      refine g_aload_n (np := 16) B.1 dL_bale_15 rfl rfl ?_
      refine gc_YLaw_126 (np := 19) B   (oX12_baleCount B.1.tr     _ _ _ h) (Nat.le_of_ble_eq_true rfl) (Nat.le_of_ble_eq_true rfl) (Nat.le_of_ble_eq_true rfl) (Nat.le_of_ble_eq_true rfl) (Nat.le_of_ble_eq_true rfl) dL_bale_16 rfl (fun r3 s4 h => ?_)
      refine g_irem (np := 20) B.1 dL_bale_19 h.1 rfl ?_
      replace h := h.2
      refine gc_YLaw_129 (np := 23) B   (oX12_baleAt B.1.tr   (a2 - a2 / r3 * r3)  _ _ _ h) (Nat.le_of_ble_eq_true rfl) (Nat.le_of_ble_eq_true rfl) (Nat.le_of_ble_eq_true rfl) (Nat.le_of_ble_eq_true rfl) (Nat.le_of_ble_eq_true rfl) dL_bale_20 rfl (fun r5 s6 h => ?_)
      refine g_goto (tgt := 27) B.1 dL_bale_23 (by decide) ?_
      exact g_iret B (ty := .int) rfl rfl (Nat.le_of_ble_eq_true rfl) (Nat.le_of_ble_eq_true rfl) dL_bale_27 ⟨_, rfl, h⟩
def wL_order  (a2 : Int32) (s0 : Mem) (Q : Int32 → Mem → Prop) (E : String → Mem → Prop) : Prop := wX12_orderCount   s0 (fun (r1 : Int32) (s2 : Mem) => ((r1 ≤ 0 → Q a2 s2) ∧ (¬ r1 ≤ 0 → ((9 ≤ a2 → Q a2 s2) ∧ (¬ 9 ≤ a2 → wX12_orderCount   s2 (fun (r3 : Int32) (s4 : Mem) => (¬ r3 = 0) ∧ wX12_orderAt  (a2 - a2 / r3 * r3) s4 (fun (r5 : Int32) (s6 : Mem) => Q r5 s6) E) E))))) E
set_option maxRecDepth 20000 in
set_option maxHeartbeats 4000000 in
theorem oL_order {l : Launch} {x : Ctx} (hl : l.stackTraces = false)   (a2 : Int32)  (s0 : Mem) (Q : Int32 → Mem → Prop) (E : String → Mem → Prop) (h : wL_order  a2 s0 Q E) : MetG l x yL_order cL_order 2 (some .int) 7 103 1 6 [.ref (xad x 14 0), .int a2] s0 (RI Q) E := by
  refine MetG.of hl (by decide) (Nat.le_of_ble_eq_true rfl) [some (.ref (xad x 14 0)), some (.int a2)] rfl (fun K B hx _ => ?_)
  subst hx
  unfold wL_order at h
  refine g_aload_n (np := 1) B.1 dL_order_0 rfl rfl ?_
  refine gc_YLaw_132 (np := 4) B   (oX12_orderCount B.1.tr     _ _ _ h) (Nat.le_of_ble_eq_true rfl) (Nat.le_of_ble_eq_true rfl) (Nat.le_of_ble_eq_true rfl) (Nat.le_of_ble_eq_true rfl) (Nat.le_of_ble_eq_true rfl) dL_order_1 rfl (fun r1 s2 h => ?_)
  refine g_if_le (np := 7) (tgt := 26) B.1 dL_order_4 (by decide) rfl (fun q => ?_) (fun q => ?_)
  · replace h := h.1 q
    refine g_iload_n (np := 27) B.1 dL_order_26 rfl rfl ?_
    exact g_iret B (ty := .int) rfl rfl (Nat.le_of_ble_eq_true rfl) (Nat.le_of_ble_eq_true rfl) dL_order_27 ⟨_, rfl, h⟩
  · replace h := h.2 q
    refine g_iload_n (np := 8) B.1 dL_order_7 rfl rfl ?_
    refine g_bipush (np := 10) (v := 9) B.1 dL_order_8 (by decide) rfl ?_
    refine g_icmp_ge (np := 13) (tgt := 26) B.1 dL_order_10 (by decide) rfl (fun q => ?_) (fun q => ?_)
    · replace h := h.1 q
      refine g_iload_n (np := 27) B.1 dL_order_26 rfl rfl ?_
      exact g_iret B (ty := .int) rfl rfl (Nat.le_of_ble_eq_true rfl) (Nat.le_of_ble_eq_true rfl) dL_order_27 ⟨_, rfl, h⟩
    · replace h := h.2 q
      refine g_aload_n (np := 14) B.1 dL_order_13 rfl rfl ?_
      refine g_iload_n (np := 15) B.1 dL_order_14 rfl rfl ?_
      refine g_aload_n (np := 16) B.1 dL_order_15 rfl rfl ?_
      refine gc_YLaw_132 (np := 19) B   (oX12_orderCount B.1.tr     _ _ _ h) (Nat.le_of_ble_eq_true rfl) (Nat.le_of_ble_eq_true rfl) (Nat.le_of_ble_eq_true rfl) (Nat.le_of_ble_eq_true rfl) (Nat.le_of_ble_eq_true rfl) dL_order_16 rfl (fun r3 s4 h => ?_)
      refine g_irem (np := 20) B.1 dL_order_19 h.1 rfl ?_
      replace h := h.2
      refine gc_YLaw_135 (np := 23) B   (oX12_orderAt B.1.tr   (a2 - a2 / r3 * r3)  _ _ _ h) (Nat.le_of_ble_eq_true rfl) (Nat.le_of_ble_eq_true rfl) (Nat.le_of_ble_eq_true rfl) (Nat.le_of_ble_eq_true rfl) (Nat.le_of_ble_eq_true rfl) dL_order_20 rfl (fun r5 s6 h => ?_)
      refine g_goto (tgt := 27) B.1 dL_order_23 (by decide) ?_
      exact g_iret B (ty := .int) rfl rfl (Nat.le_of_ble_eq_true rfl) (Nat.le_of_ble_eq_true rfl) dL_order_27 ⟨_, rfl, h⟩
def wL_areAlike_2 (k : Nat) (k2 : Nat)  (Q : Int32 → Mem → Prop) (E : String → Mem → Prop)  (X17 : Mem → Prop) (X25 : Mem → Prop) : Nat → Int32 → Mem → Prop
  | 0, _, _ => False
  | n2 + 1, v2, s0 => ((110 ≤ v2 → X25  s0) ∧ (¬ 110 ≤ v2 → vp_in v2 110 ∧ vp_in v2 110 ∧ ((rd s0 19 k v2.toNatClampNeg = rd s0 19 k2 v2.toNatClampNeg → ∀ v2_1 : Int32, v2_1 = (v2 + 1) → wL_areAlike_2 k k2  Q E X17 X25 n2 v2_1 s0) ∧ (¬ rd s0 19 k v2.toNatClampNeg = rd s0 19 k2 v2.toNatClampNeg → X17  s0))))
def wL_areAlike (k : Nat) (k2 : Nat)  (s0 : Mem) (Q : Int32 → Mem → Prop) (E : String → Mem → Prop) : Prop := ∃ m4 : Nat, wL_areAlike_2 k k2  Q E (fun (s2 : Mem) => Q 0 s2) (fun (s3 : Mem) => Q 1 s3) m4 0  s0
set_option maxRecDepth 20000 in
set_option maxHeartbeats 4000000 in
theorem oL_areAlike_2 {K : Fr} {Q : Int32 → Mem → Prop} {E : String → Mem → Prop} (B : Bd K cL_areAlike "YarnMillLaw" 3 (some .boolean) 0 0 0 0 (RI Q) E) (k : Nat) (k2 : Nat)  (hk : k < oCnt (fX K) 19) (hk2 : k2 < oCnt (fX K) 19) {X17 : Mem → Prop} {X25 : Mem → Prop} {cells slots : Nat} (hX17 : ∀ (τ : Mem), X17  τ → Go K cells slots τ 17 [none, none, none] ([])) (hX25 : ∀ (τ : Mem), X25  τ → Go K cells slots τ 25 [none, none, none] ([])) (hc : cells ≤ 0) (hs : slots ≤ 0) : ∀ (n : Nat) (v2 : Int32) (s0 : Mem), wL_areAlike_2 k k2  Q E X17 X25 n v2 s0 → Go K cells slots s0 2 [some (.ref (xad (fX K) 19 k)), some (.ref (xad (fX K) 19 k2)), some (.int v2)] ([]) := by
  intro n
  induction n with
  | zero => intro v2 s0 h; exact absurd h (by simp [wL_areAlike_2])
  | succ n ih =>
    intro v2 s0 h
    simp only [wL_areAlike_2] at h
    refine g_iload_n (np := 3) B.1 dL_areAlike_2 rfl rfl ?_
    refine g_aload_n (np := 4) B.1 dL_areAlike_3 rfl rfl ?_
    refine g_alen (np := 5) B.1 19 k hk rfl rfl (t0 := 0) rfl (v := 110) (by show Int32.ofNat 110 = 110; decide) dL_areAlike_4 rfl ?_
    refine g_icmp_ge (np := 8) (tgt := 25) B.1 dL_areAlike_5 (by decide) rfl (fun q => ?_) (fun q => ?_)
    · replace h := h.1 q
      refine Go.lle [none, none, none] (by simp [lle]) ?_
      exact hX25  s0 h
    · replace h := h.2 q
      refine g_aload_n (np := 9) B.1 dL_areAlike_8 rfl rfl ?_
      refine g_iload_n (np := 10) B.1 dL_areAlike_9 rfl rfl ?_
      refine g_iald (np := 11) B.1 19 k hk rfl rfl h.1 dL_areAlike_10 rfl ?_
      replace h := h.2
      refine g_aload_n (np := 12) B.1 dL_areAlike_11 rfl rfl ?_
      refine g_iload_n (np := 13) B.1 dL_areAlike_12 rfl rfl ?_
      refine g_iald (np := 14) B.1 19 k2 hk2 rfl rfl h.1 dL_areAlike_13 rfl ?_
      replace h := h.2
      refine g_icmp_eq (np := 17) (tgt := 19) B.1 dL_areAlike_14 (by decide) rfl (fun q => ?_) (fun q => ?_)
      · replace h := h.1 q
        obtain ⟨v2_1, ev2_1⟩ : ∃ y : Int32, y = v2 + 1 := ⟨_, rfl⟩
        replace h := h v2_1 ev2_1
        refine g_iinc (np := 22) (v := v2_1) (lv' := [some (.ref (xad (fX K) 19 k)), some (.ref (xad (fX K) 19 k2)), some (.int v2_1)]) B.1 dL_areAlike_19 rfl (by rw [ev2_1]; rfl) (by decide) rfl rfl rfl ?_
        refine g_goto (tgt := 2) B.1 dL_areAlike_22 (by decide) ?_
        refine Go.lle [some (.ref (xad (fX K) 19 k)), some (.ref (xad (fX K) 19 k2)), some (.int v2_1)] (by simp [lle]) ?_
        exact ih v2_1 s0 h
      · replace h := h.2 q
        refine Go.lle [none, none, none] (by simp [lle]) ?_
        exact hX17  s0 h
set_option maxRecDepth 20000 in
set_option maxHeartbeats 4000000 in
theorem oL_areAlike {l : Launch} {x : Ctx} (hl : l.stackTraces = false) (k : Nat) (k2 : Nat) (hk : k < oCnt x 19) (hk2 : k2 < oCnt x 19)   (s0 : Mem) (Q : Int32 → Mem → Prop) (E : String → Mem → Prop) (h : wL_areAlike k k2  s0 Q E) : MetG l x yL_areAlike cL_areAlike 3 (some .boolean) 0 0 0 0 [.ref (xad x 19 k), .ref (xad x 19 k2)] s0 (RI Q) E := by
  refine MetG.of hl (by decide) (Nat.le_of_ble_eq_true rfl) [some (.ref (xad x 19 k)), some (.ref (xad x 19 k2)), none] rfl (fun K B hx _ => ?_)
  subst hx
  unfold wL_areAlike at h
  refine g_iconst (np := 1) (v := 0) B.1 dL_areAlike_0 (by decide) rfl ?_
  refine g_istore_n (np := 2) (lv' := [some (.ref (xad (fX K) 19 k)), some (.ref (xad (fX K) 19 k2)), some (.int 0)]) B.1 dL_areAlike_1 (by decide) rfl rfl rfl ?_
  obtain ⟨m4, h⟩ := h
  refine Go.lle [some (.ref (xad (fX K) 19 k)), some (.ref (xad (fX K) 19 k2)), some (.int 0)] (by simp [lle]) ?_
  refine oL_areAlike_2 B k k2  hk hk2 (fun s2 h => ?_) (fun s3 h => ?_) (Nat.le_of_ble_eq_true rfl) (Nat.le_of_ble_eq_true rfl) m4 0  s0 h
  · refine g_iconst (np := 18) (v := 0) B.1 dL_areAlike_17 (by decide) rfl ?_
    exact g_iret B (ty := .boolean) rfl (by decide) (Nat.le_of_ble_eq_true rfl) (Nat.le_of_ble_eq_true rfl) dL_areAlike_18 ⟨_, rfl, h⟩
  · refine g_iconst (np := 26) (v := 1) B.1 dL_areAlike_25 (by decide) rfl ?_
    exact g_iret B (ty := .boolean) rfl (by decide) (Nat.le_of_ble_eq_true rfl) (Nat.le_of_ble_eq_true rfl) dL_areAlike_26 ⟨_, rfl, h⟩

