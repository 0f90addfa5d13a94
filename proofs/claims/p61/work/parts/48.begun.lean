/-! THE LAW'S MILL: MADE AND BEGUN -/
def QMB (x : Ctx) (Q : Mem → Prop) : Array Value → State → Outcome → State → Prop := fun _ st o t => (∃ σ' : Mem, o = .returned (some (.ref (xad x 14 0))) ∧ Q σ' ∧ Cells x σ' t.heap ∧ Dis x σ') ∧ va_F (XA x) st t
theorem MetB.of {l : Launch} {x : Ctx} {y : MethodName} {cc : ByteArray} {maxL : Nat} {ret : Option FieldType} {fr lo mc ms : Nat} {As : List Value} {QN9 : Array Value → State → Outcome → State → Prop} (hl : l.stackTraces = false) (hy : plainName y.cls = true) (hn : (lg_sl As).length ≤ maxL) (lv : List (Option Value)) (hlv : lvl lv = lv_args 0 As)
    (body : ∀ K : Fr, Bd K cc y.cls maxL ret fr lo mc ms (fun _ _ => False) (fun _ _ => False) → fQ K = vx_MQ (fB K) QN9 (fun _ _ _ => False) (fA K) (fS K) mc ms (XA (fX K)) → AOs (fS K) → fX K = x → fL K = l → GoC K 0 0 [] 0 lv []) : Met l y (Cond.code y cc maxL ret :: lw_good) ({ frames := fr, cells := mc, slots := ms, locals := lo }) (va_Pc As (RWd x [])) QN9 mc ms (XA x) := by
  refine vx_met (vx_ofW (cc := cc) (maxL := maxL) (ret := ret) hy rfl ?_)
  intro p e s m args below meth c s₁ B hml hex hv
  obtain ⟨rfl, hR, hK, hS, hao⟩ := hv
  have hts := atoms_spec (ws := Cond.code y cc maxL ret :: lw_good) B.pre
  have K1 := body (p, l, e, (headSpec (Cond.code y cc maxL ret :: lw_good) ({ frames := fr, cells := mc, slots := ms, locals := lo } : Room)).room, s, m, As.toArray, below, meth, c, x, maxL, vx_MQ below QN9 (fun _ _ _ => False) As.toArray s mc ms (XA x))
    ⟨⟨B.exec, B.bytes, hml, findClass_of_methodNamed B.named, fun w hw => hts w (List.mem_cons_of_mem _ hw), hK, hS, by rw [hR.1]; exact Nat.le_add_right _ _, B.notSynchronized, hl, rfl⟩, rfl, B.returns, ⟨_, _, rfl, fun v σ' t hq => absurd hq id, fun E σ' t hq => absurd hq id⟩, Or.inl hex⟩ rfl hao rfl rfl
  rw [lg_entry_eq]
  exact K1 s.heap [] _ hR va_S.rf (Lh.of (lv_entry As hn) hlv)
theorem BdB.to {K : Fr} {cc : ByteArray} {own : String} {nL : Nat} {ret : Option FieldType} {fr lo mc ms : Nat} {Q : Mem → Prop} (B : Bd K cc own nL ret fr lo mc ms (fun _ _ => False) (fun _ _ => False)) (eQ : fQ K = vx_MQ (fB K) (QMB (fX K) Q) (fun _ _ _ => False) (fA K) (fS K) mc ms (XA (fX K))) : Bd K cc own nL ret fr lo mc ms (RR (xad (fX K) 14 0) Q) (fun _ _ => False) :=
  ⟨B.1, B.2.1, B.2.2.1, ⟨QMB (fX K) Q, fun _ _ _ => False, eQ, fun v σ t hq hC hD hF => ⟨⟨σ, by rw [hq.1], hq.2, hC, hD⟩, hF⟩, fun E σ t q => absurd q id⟩, B.2.2.2.2⟩
theorem b_516 : Cond.instantiable "YarnMill" 13 ∈ lw_good := bB 516 (by decide +kernel) (by decide +kernel)
theorem b_947 : Cond.classLink "YarnMillLaw" 10 "YarnMill" ∈ lw_good := bB 947 (by decide +kernel) (by decide +kernel)
theorem b_948 : Cond.methodLink "YarnMillLaw" 107 yX12_init ∈ lw_good := bB 948 (by decide +kernel) (by decide +kernel)
theorem b_949 : Cond.instanceMethod yX12_init ∈ lw_good := bB 949 (by decide +kernel) (by decide +kernel)
theorem b_950 : Cond.code yX12_init cX12_init 1 none ∈ lw_good := bB 950 (by decide +kernel) (by decide +kernel)
theorem b_1242 : Cond.constant "YarnMillLaw" 125 (-90000000 : Int32) ∈ lw_good := bB 1242 (by decide +kernel) (by decide +kernel)
def wL_begun_12 (S : Scr)  (Q : Mem → Prop) (E : String → Mem → Prop)  (X73 : Int32 → Mem → Prop) : Nat → Int32 → Int32 → Mem → Prop
  | 0, _, _, _ => False
  | n12 + 1, v2, v3, s0 => wL_in S 0 6 s0 (fun (r1 : Int32) (s2 : Mem) => ((3 + r1 ≤ v3 → X73 v2 s2) ∧ (¬ 3 + r1 ≤ v3 → wL_in S (1 + v3) 40 s2 (fun (r3 : Int32) (s4 : Mem) => wL_in S (10 + v3) 51 s4 (fun (r5 : Int32) (s6 : Mem) => wL_in S (20 + v3) 4 s6 (fun (r7 : Int32) (s8 : Mem) => wL_buyBale  (1 + r3) (10 + r5) (1 + r7) s8 (fun (r9 : Int32) (s10 : Mem) => ∀ v2_11 : Int32, v2_11 = (v2 + r9) → ∀ v3_12 : Int32, v3_12 = (v3 + 1) → wL_begun_12 S  Q E X73 n12 v2_11 v3_12 s10) E) E) E) E))) E
def wL_begun_103 (S : Scr)  (Q : Mem → Prop) (E : String → Mem → Prop)  (X153 : Int32 → Mem → Prop) : Nat → Int32 → Int32 → Mem → Prop
  | 0, _, _, _ => False
  | n103 + 1, v2, v3, s0 => wL_in S 32 4 s0 (fun (r22 : Int32) (s23 : Mem) => ((2 + r22 ≤ v3 → X153 v2 s23) ∧ (¬ 2 + r22 ≤ v3 → wL_in S (33 + v3) 20 s23 (fun (r24 : Int32) (s25 : Mem) => wL_in S (40 + v3) 9 s25 (fun (r26 : Int32) (s27 : Mem) => wL_addOrder  (1 + r24) (1 + r26) s27 (fun (r28 : Int32) (s29 : Mem) => ∀ v2_30 : Int32, v2_30 = (v2 + r28) → ∀ v3_31 : Int32, v3_31 = (v3 + 1) → wL_begun_103 S  Q E X153 n103 v2_30 v3_31 s29) E) E) E))) E
def wL_begun_183 (S : Scr)  (Q : Mem → Prop) (E : String → Mem → Prop)  (X267 : Int32 → Mem → Prop) : Nat → Int32 → Int32 → Mem → Prop
  | 0, _, _, _ => False
  | n183 + 1, v2, v3, s0 => ((2 ≤ v3 → X267 v2 s0) ∧ (¬ 2 ≤ v3 → wL_in S (48 + v3) 30 s0 (fun (r43 : Int32) (s44 : Mem) => wL_in S (50 + v3) 51 s44 (fun (r45 : Int32) (s46 : Mem) => wL_in S (52 + v3) 6 s46 (fun (r47 : Int32) (s48 : Mem) => wL_buyBale  (1 + r43) (10 + r45) (1 + r47) s48 (fun (r49 : Int32) (s50 : Mem) => wL_in S (54 + v3) 12 s50 (fun (r51 : Int32) (s52 : Mem) => wL_in S (56 + v3) 9 s52 (fun (r53 : Int32) (s54 : Mem) => wL_addOrder  (1 + r51) (1 + r53) s54 (fun (r55 : Int32) (s56 : Mem) => ∀ v2_57 : Int32, v2_57 = (v2 + (r49 + r55)) → ∀ v3_58 : Int32, v3_58 = (v3 + 1) → wL_begun_183 S  Q E X267 n183 v2_57 v3_58 s56) E) E) E) E) E) E) E))
def wL_begun (S : Scr) (s0 : Mem) (Q : Mem → Prop) (E : String → Mem → Prop) : Prop := ∃ m63 : Nat, m63 ≤ 10 ∧ wL_begun_12 S  Q E (fun (x2_13 : Int32) (s14 : Mem) => wL_in S 30 30 s14 (fun (r15 : Int32) (s16 : Mem) => wL_in S 31 20 s16 (fun (r17 : Int32) (s18 : Mem) => wL_blend  (1 + r15) (10 + r17) s18 (fun (r19 : Int32) (s20 : Mem) => ∀ v2_21 : Int32, v2_21 = (x2_13 + r19) → ∃ m62 : Nat, m62 ≤ 10 ∧ wL_begun_103 S  Q E (fun (x2_32 : Int32) (s33 : Mem) => wL_in S 46 3 s33 (fun (r34 : Int32) (s35 : Mem) => wL_spin  r34 s35 (fun (r36 : Int32) (s37 : Mem) => wL_in S 47 3 s37 (fun (r38 : Int32) (s39 : Mem) => wL_setMachines  (1 + r38) s39 (fun (r40 : Int32) (s41 : Mem) => ∀ v2_42 : Int32, v2_42 = (x2_32 + (r36 + r40)) → ∃ m61 : Nat, m61 ≤ 10 ∧ wL_begun_183 S  Q E (fun (x2_59 : Int32) (s60 : Mem) => (((-90000000) ≤ x2_59 → Q s60) ∧ (¬ (-90000000) ≤ x2_59 → False))) m61 v2_42 0  s41) E) E) E) E) m62 v2_21 0  s20) E) E) E) m63 0 0  s0
set_option maxRecDepth 20000 in
set_option maxHeartbeats 4000000 in
theorem oL_begun_12 {K : Fr} {Q : Mem → Prop} {E : String → Mem → Prop} (B : Bd K cL_begun "YarnMillLaw" 4 (some (.object "YarnMill")) 10 216 320 5977 (RR (xad (fX K) 14 0) Q) E) (S : Scr)  (hS : scr (fX K) = S) {X73 : Int32 → Mem → Prop} {CM SM : Nat} (hX73 : ∀ (y2 : Int32) (τ : Mem), X73 y2 τ → Go K CM SM τ 73 [some (.ref (xen (fX K) 5 0)), some (.ref (xad (fX K) 14 0)), some (.int y2), none] ([])) (hCM : CM ≤ 320) (hSM : SM ≤ 5977) : ∀ (n : Nat) {cells slots : Nat} (hc : cells + n * 1 ≤ CM) (hs : slots + n * 6 ≤ SM) (v2 : Int32) (v3 : Int32) (s0 : Mem), wL_begun_12 S  Q E X73 n v2 v3 s0 → Go K cells slots s0 12 [some (.ref (xen (fX K) 5 0)), some (.ref (xad (fX K) 14 0)), some (.int v2), some (.int v3)] ([]) := by
  intro n
  induction n with
  | zero => intro cells slots hc hs v2 v3 s0 h; exact absurd h (by simp [wL_begun_12])
  | succ n ih =>
    intro cells slots hc hs v2 v3 s0 h
    simp only [wL_begun_12] at h
    refine g_iload_n (np := 13) B.1 dL_begun_12 rfl rfl ?_
    refine g_iconst (np := 14) (v := 3) B.1 dL_begun_13 (by decide) rfl ?_
    refine g_aload_n (np := 15) B.1 dL_begun_14 rfl rfl ?_
    refine g_iconst (np := 16) (v := 0) B.1 dL_begun_15 (by decide) rfl ?_
    refine g_bipush (np := 18) (v := 6) B.1 dL_begun_16 (by decide) rfl ?_
    refine gc_YLaw_108 (np := 21) B S hS (oL_in B.1.tr S hS 0 6  _ _ _ h) (Nat.le_of_ble_eq_true rfl) (Nat.le_of_ble_eq_true rfl) (Nat.le_of_ble_eq_true rfl) (by omega) (by omega) dL_begun_18 rfl (fun r1 s2 h => ?_)
    refine g_iadd (np := 22) B.1 dL_begun_21 rfl ?_
    refine g_icmp_ge (np := 25) (tgt := 73) B.1 dL_begun_22 (by decide) rfl (fun q => ?_) (fun q => ?_)
    · replace h := h.1 q
      refine Go.lle [some (.ref (xen (fX K) 5 0)), some (.ref (xad (fX K) 14 0)), some (.int v2), none] (by simp [lle]) ?_
      exact Go.widen (by omega) (by omega) (hX73 v2 s2 h)
    · replace h := h.2 q
      refine g_iload_n (np := 26) B.1 dL_begun_25 rfl rfl ?_
      refine g_aload_n (np := 27) B.1 dL_begun_26 rfl rfl ?_
      refine g_iconst (np := 28) (v := 1) B.1 dL_begun_27 (by decide) rfl ?_
      refine g_aload_n (np := 29) B.1 dL_begun_28 rfl rfl ?_
      refine g_iconst (np := 30) (v := 1) B.1 dL_begun_29 (by decide) rfl ?_
      refine g_iload_n (np := 31) B.1 dL_begun_30 rfl rfl ?_
      refine g_iadd (np := 32) B.1 dL_begun_31 rfl ?_
      refine g_bipush (np := 34) (v := 40) B.1 dL_begun_32 (by decide) rfl ?_
      refine gc_YLaw_108 (np := 37) B S hS (oL_in B.1.tr S hS (1 + v3) 40  _ _ _ h) (Nat.le_of_ble_eq_true rfl) (Nat.le_of_ble_eq_true rfl) (Nat.le_of_ble_eq_true rfl) (by omega) (by omega) dL_begun_34 rfl (fun r3 s4 h => ?_)
      refine g_iadd (np := 38) B.1 dL_begun_37 rfl ?_
      refine g_bipush (np := 40) (v := 10) B.1 dL_begun_38 (by decide) rfl ?_
      refine g_aload_n (np := 41) B.1 dL_begun_40 rfl rfl ?_
      refine g_bipush (np := 43) (v := 10) B.1 dL_begun_41 (by decide) rfl ?_
      refine g_iload_n (np := 44) B.1 dL_begun_43 rfl rfl ?_
      refine g_iadd (np := 45) B.1 dL_begun_44 rfl ?_
      refine g_bipush (np := 47) (v := 51) B.1 dL_begun_45 (by decide) rfl ?_
      refine gc_YLaw_108 (np := 50) B S hS (oL_in B.1.tr S hS (10 + v3) 51  _ _ _ h) (Nat.le_of_ble_eq_true rfl) (Nat.le_of_ble_eq_true rfl) (Nat.le_of_ble_eq_true rfl) (by omega) (by omega) dL_begun_47 rfl (fun r5 s6 h => ?_)
      refine g_iadd (np := 51) B.1 dL_begun_50 rfl ?_
      refine g_iconst (np := 52) (v := 1) B.1 dL_begun_51 (by decide) rfl ?_
      refine g_aload_n (np := 53) B.1 dL_begun_52 rfl rfl ?_
      refine g_bipush (np := 55) (v := 20) B.1 dL_begun_53 (by decide) rfl ?_
      refine g_iload_n (np := 56) B.1 dL_begun_55 rfl rfl ?_
      refine g_iadd (np := 57) B.1 dL_begun_56 rfl ?_
      refine g_iconst (np := 58) (v := 4) B.1 dL_begun_57 (by decide) rfl ?_
      refine gc_YLaw_108 (np := 61) B S hS (oL_in B.1.tr S hS (20 + v3) 4  _ _ _ h) (Nat.le_of_ble_eq_true rfl) (Nat.le_of_ble_eq_true rfl) (Nat.le_of_ble_eq_true rfl) (by omega) (by omega) dL_begun_58 rfl (fun r7 s8 h => ?_)
      refine g_iadd (np := 62) B.1 dL_begun_61 rfl ?_
      refine gc_YLaw_112 (np := 65) B   (oL_buyBale B.1.tr   (1 + r3) (10 + r5) (1 + r7)  _ _ _ h) (Nat.le_of_ble_eq_true rfl) (Nat.le_of_ble_eq_true rfl) (Nat.le_of_ble_eq_true rfl) (by omega) (by omega) dL_begun_62 rfl (fun r9 s10 h => ?_)
      refine g_iadd (np := 66) B.1 dL_begun_65 rfl ?_
      refine g_topi (fun v2_11 ev2_11 => ?_)
      replace h := h v2_11 ev2_11
      refine g_istore_n (np := 67) (lv' := [some (.ref (xen (fX K) 5 0)), some (.ref (xad (fX K) 14 0)), some (.int v2_11), some (.int v3)]) B.1 dL_begun_66 (by decide) rfl rfl rfl ?_
      obtain ⟨v3_12, ev3_12⟩ : ∃ y : Int32, y = v3 + 1 := ⟨_, rfl⟩
      replace h := h v3_12 ev3_12
      refine g_iinc (np := 70) (v := v3_12) (lv' := [some (.ref (xen (fX K) 5 0)), some (.ref (xad (fX K) 14 0)), some (.int v2_11), some (.int v3_12)]) B.1 dL_begun_67 rfl (by rw [ev3_12]; rfl) (by decide) rfl rfl rfl ?_
      refine g_goto (tgt := 12) B.1 dL_begun_70 (by decide) ?_
      refine Go.lle [some (.ref (xen (fX K) 5 0)), some (.ref (xad (fX K) 14 0)), some (.int v2_11), some (.int v3_12)] (by simp [lle]) ?_
      exact ih (by omega) (by omega) v2_11 v3_12 s10 h
set_option maxRecDepth 20000 in
set_option maxHeartbeats 4000000 in
theorem oL_begun_103 {K : Fr} {Q : Mem → Prop} {E : String → Mem → Prop} (B : Bd K cL_begun "YarnMillLaw" 4 (some (.object "YarnMill")) 10 216 320 5977 (RR (xad (fX K) 14 0) Q) E) (S : Scr)  (hS : scr (fX K) = S) {X153 : Int32 → Mem → Prop} {CM SM : Nat} (hX153 : ∀ (y2 : Int32) (τ : Mem), X153 y2 τ → Go K CM SM τ 153 [some (.ref (xen (fX K) 5 0)), some (.ref (xad (fX K) 14 0)), some (.int y2), none] ([])) (hCM : CM ≤ 320) (hSM : SM ≤ 5977) : ∀ (n : Nat) {cells slots : Nat} (hc : cells + n * 1 ≤ CM) (hs : slots + n * 6 ≤ SM) (v2 : Int32) (v3 : Int32) (s0 : Mem), wL_begun_103 S  Q E X153 n v2 v3 s0 → Go K cells slots s0 103 [some (.ref (xen (fX K) 5 0)), some (.ref (xad (fX K) 14 0)), some (.int v2), some (.int v3)] ([]) := by
  intro n
  induction n with
  | zero => intro cells slots hc hs v2 v3 s0 h; exact absurd h (by simp [wL_begun_103])
  | succ n ih =>
    intro cells slots hc hs v2 v3 s0 h
    simp only [wL_begun_103] at h
    refine g_iload_n (np := 104) B.1 dL_begun_103 rfl rfl ?_
    refine g_iconst (np := 105) (v := 2) B.1 dL_begun_104 (by decide) rfl ?_
    refine g_aload_n (np := 106) B.1 dL_begun_105 rfl rfl ?_
    refine g_bipush (np := 108) (v := 32) B.1 dL_begun_106 (by decide) rfl ?_
    refine g_iconst (np := 109) (v := 4) B.1 dL_begun_108 (by decide) rfl ?_
    refine gc_YLaw_108 (np := 112) B S hS (oL_in B.1.tr S hS 32 4  _ _ _ h) (Nat.le_of_ble_eq_true rfl) (Nat.le_of_ble_eq_true rfl) (Nat.le_of_ble_eq_true rfl) (by omega) (by omega) dL_begun_109 rfl (fun r22 s23 h => ?_)
    refine g_iadd (np := 113) B.1 dL_begun_112 rfl ?_
    refine g_icmp_ge (np := 116) (tgt := 153) B.1 dL_begun_113 (by decide) rfl (fun q => ?_) (fun q => ?_)
    · replace h := h.1 q
      refine Go.lle [some (.ref (xen (fX K) 5 0)), some (.ref (xad (fX K) 14 0)), some (.int v2), none] (by simp [lle]) ?_
      exact Go.widen (by omega) (by omega) (hX153 v2 s23 h)
    · replace h := h.2 q
      refine g_iload_n (np := 117) B.1 dL_begun_116 rfl rfl ?_
      refine g_aload_n (np := 118) B.1 dL_begun_117 rfl rfl ?_
      refine g_iconst (np := 119) (v := 1) B.1 dL_begun_118 (by decide) rfl ?_
      refine g_aload_n (np := 120) B.1 dL_begun_119 rfl rfl ?_
      refine g_bipush (np := 122) (v := 33) B.1 dL_begun_120 (by decide) rfl ?_
      refine g_iload_n (np := 123) B.1 dL_begun_122 rfl rfl ?_
      refine g_iadd (np := 124) B.1 dL_begun_123 rfl ?_
      refine g_bipush (np := 126) (v := 20) B.1 dL_begun_124 (by decide) rfl ?_
      refine gc_YLaw_108 (np := 129) B S hS (oL_in B.1.tr S hS (33 + v3) 20  _ _ _ h) (Nat.le_of_ble_eq_true rfl) (Nat.le_of_ble_eq_true rfl) (Nat.le_of_ble_eq_true rfl) (by omega) (by omega) dL_begun_126 rfl (fun r24 s25 h => ?_)
      refine g_iadd (np := 130) B.1 dL_begun_129 rfl ?_
      refine g_iconst (np := 131) (v := 1) B.1 dL_begun_130 (by decide) rfl ?_
      refine g_aload_n (np := 132) B.1 dL_begun_131 rfl rfl ?_
      refine g_bipush (np := 134) (v := 40) B.1 dL_begun_132 (by decide) rfl ?_
      refine g_iload_n (np := 135) B.1 dL_begun_134 rfl rfl ?_
      refine g_iadd (np := 136) B.1 dL_begun_135 rfl ?_
      refine g_bipush (np := 138) (v := 9) B.1 dL_begun_136 (by decide) rfl ?_
      refine gc_YLaw_108 (np := 141) B S hS (oL_in B.1.tr S hS (40 + v3) 9  _ _ _ h) (Nat.le_of_ble_eq_true rfl) (Nat.le_of_ble_eq_true rfl) (Nat.le_of_ble_eq_true rfl) (by omega) (by omega) dL_begun_138 rfl (fun r26 s27 h => ?_)
      refine g_iadd (np := 142) B.1 dL_begun_141 rfl ?_
      refine gc_YLaw_118 (np := 145) B   (oL_addOrder B.1.tr   (1 + r24) (1 + r26)  _ _ _ h) (Nat.le_of_ble_eq_true rfl) (Nat.le_of_ble_eq_true rfl) (Nat.le_of_ble_eq_true rfl) (by omega) (by omega) dL_begun_142 rfl (fun r28 s29 h => ?_)
      refine g_iadd (np := 146) B.1 dL_begun_145 rfl ?_
      refine g_topi (fun v2_30 ev2_30 => ?_)
      replace h := h v2_30 ev2_30
      refine g_istore_n (np := 147) (lv' := [some (.ref (xen (fX K) 5 0)), some (.ref (xad (fX K) 14 0)), some (.int v2_30), some (.int v3)]) B.1 dL_begun_146 (by decide) rfl rfl rfl ?_
      obtain ⟨v3_31, ev3_31⟩ : ∃ y : Int32, y = v3 + 1 := ⟨_, rfl⟩
      replace h := h v3_31 ev3_31
      refine g_iinc (np := 150) (v := v3_31) (lv' := [some (.ref (xen (fX K) 5 0)), some (.ref (xad (fX K) 14 0)), some (.int v2_30), some (.int v3_31)]) B.1 dL_begun_147 rfl (by rw [ev3_31]; rfl) (by decide) rfl rfl rfl ?_
      refine g_goto (tgt := 103) B.1 dL_begun_150 (by decide) ?_
      refine Go.lle [some (.ref (xen (fX K) 5 0)), some (.ref (xad (fX K) 14 0)), some (.int v2_30), some (.int v3_31)] (by simp [lle]) ?_
      exact ih (by omega) (by omega) v2_30 v3_31 s29 h
set_option maxRecDepth 20000 in
set_option maxHeartbeats 4000000 in
theorem oL_begun_183 {K : Fr} {Q : Mem → Prop} {E : String → Mem → Prop} (B : Bd K cL_begun "YarnMillLaw" 4 (some (.object "YarnMill")) 10 216 320 5977 (RR (xad (fX K) 14 0) Q) E) (S : Scr)  (hS : scr (fX K) = S) {X267 : Int32 → Mem → Prop} {CM SM : Nat} (hX267 : ∀ (y2 : Int32) (τ : Mem), X267 y2 τ → Go K CM SM τ 267 [none, some (.ref (xad (fX K) 14 0)), some (.int y2), none] ([])) (hCM : CM ≤ 320) (hSM : SM ≤ 5977) : ∀ (n : Nat) {cells slots : Nat} (hc : cells + n * 2 ≤ CM) (hs : slots + n * 12 ≤ SM) (v2 : Int32) (v3 : Int32) (s0 : Mem), wL_begun_183 S  Q E X267 n v2 v3 s0 → Go K cells slots s0 183 [some (.ref (xen (fX K) 5 0)), some (.ref (xad (fX K) 14 0)), some (.int v2), some (.int v3)] ([]) := by
  intro n
  induction n with
  | zero => intro cells slots hc hs v2 v3 s0 h; exact absurd h (by simp [wL_begun_183])
  | succ n ih =>
    intro cells slots hc hs v2 v3 s0 h
    simp only [wL_begun_183] at h
    refine g_iload_n (np := 184) B.1 dL_begun_183 rfl rfl ?_
    refine g_iconst (np := 185) (v := 2) B.1 dL_begun_184 (by decide) rfl ?_
    refine g_icmp_ge (np := 188) (tgt := 267) B.1 dL_begun_185 (by decide) rfl (fun q => ?_) (fun q => ?_)
    · replace h := h.1 q
      refine Go.lle [none, some (.ref (xad (fX K) 14 0)), some (.int v2), none] (by simp [lle]) ?_
      exact Go.widen (by omega) (by omega) (hX267 v2 s0 h)
    · replace h := h.2 q
      refine g_iload_n (np := 189) B.1 dL_begun_188 rfl rfl ?_
      refine g_aload_n (np := 190) B.1 dL_begun_189 rfl rfl ?_
      refine g_iconst (np := 191) (v := 1) B.1 dL_begun_190 (by decide) rfl ?_
      refine g_aload_n (np := 192) B.1 dL_begun_191 rfl rfl ?_
      refine g_bipush (np := 194) (v := 48) B.1 dL_begun_192 (by decide) rfl ?_
      refine g_iload_n (np := 195) B.1 dL_begun_194 rfl rfl ?_
      refine g_iadd (np := 196) B.1 dL_begun_195 rfl ?_
      refine g_bipush (np := 198) (v := 30) B.1 dL_begun_196 (by decide) rfl ?_
      refine gc_YLaw_108 (np := 201) B S hS (oL_in B.1.tr S hS (48 + v3) 30  _ _ _ h) (Nat.le_of_ble_eq_true rfl) (Nat.le_of_ble_eq_true rfl) (Nat.le_of_ble_eq_true rfl) (by omega) (by omega) dL_begun_198 rfl (fun r43 s44 h => ?_)
      refine g_iadd (np := 202) B.1 dL_begun_201 rfl ?_
      refine g_bipush (np := 204) (v := 10) B.1 dL_begun_202 (by decide) rfl ?_
      refine g_aload_n (np := 205) B.1 dL_begun_204 rfl rfl ?_
      refine g_bipush (np := 207) (v := 50) B.1 dL_begun_205 (by decide) rfl ?_
      refine g_iload_n (np := 208) B.1 dL_begun_207 rfl rfl ?_
      refine g_iadd (np := 209) B.1 dL_begun_208 rfl ?_
      refine g_bipush (np := 211) (v := 51) B.1 dL_begun_209 (by decide) rfl ?_
      refine gc_YLaw_108 (np := 214) B S hS (oL_in B.1.tr S hS (50 + v3) 51  _ _ _ h) (Nat.le_of_ble_eq_true rfl) (Nat.le_of_ble_eq_true rfl) (Nat.le_of_ble_eq_true rfl) (by omega) (by omega) dL_begun_211 rfl (fun r45 s46 h => ?_)
      refine g_iadd (np := 215) B.1 dL_begun_214 rfl ?_
      refine g_iconst (np := 216) (v := 1) B.1 dL_begun_215 (by decide) rfl ?_
      refine g_aload_n (np := 217) B.1 dL_begun_216 rfl rfl ?_
      refine g_bipush (np := 219) (v := 52) B.1 dL_begun_217 (by decide) rfl ?_
      refine g_iload_n (np := 220) B.1 dL_begun_219 rfl rfl ?_
      refine g_iadd (np := 221) B.1 dL_begun_220 rfl ?_
      refine g_bipush (np := 223) (v := 6) B.1 dL_begun_221 (by decide) rfl ?_
      refine gc_YLaw_108 (np := 226) B S hS (oL_in B.1.tr S hS (52 + v3) 6  _ _ _ h) (Nat.le_of_ble_eq_true rfl) (Nat.le_of_ble_eq_true rfl) (Nat.le_of_ble_eq_true rfl) (by omega) (by omega) dL_begun_223 rfl (fun r47 s48 h => ?_)
      refine g_iadd (np := 227) B.1 dL_begun_226 rfl ?_
      refine gc_YLaw_112 (np := 230) B   (oL_buyBale B.1.tr   (1 + r43) (10 + r45) (1 + r47)  _ _ _ h) (Nat.le_of_ble_eq_true rfl) (Nat.le_of_ble_eq_true rfl) (Nat.le_of_ble_eq_true rfl) (by omega) (by omega) dL_begun_227 rfl (fun r49 s50 h => ?_)
      refine g_aload_n (np := 231) B.1 dL_begun_230 rfl rfl ?_
      refine g_iconst (np := 232) (v := 1) B.1 dL_begun_231 (by decide) rfl ?_
      refine g_aload_n (np := 233) B.1 dL_begun_232 rfl rfl ?_
      refine g_bipush (np := 235) (v := 54) B.1 dL_begun_233 (by decide) rfl ?_
      refine g_iload_n (np := 236) B.1 dL_begun_235 rfl rfl ?_
      refine g_iadd (np := 237) B.1 dL_begun_236 rfl ?_
      refine g_bipush (np := 239) (v := 12) B.1 dL_begun_237 (by decide) rfl ?_
      refine gc_YLaw_108 (np := 242) B S hS (oL_in B.1.tr S hS (54 + v3) 12  _ _ _ h) (Nat.le_of_ble_eq_true rfl) (Nat.le_of_ble_eq_true rfl) (Nat.le_of_ble_eq_true rfl) (by omega) (by omega) dL_begun_239 rfl (fun r51 s52 h => ?_)
      refine g_iadd (np := 243) B.1 dL_begun_242 rfl ?_
      refine g_iconst (np := 244) (v := 1) B.1 dL_begun_243 (by decide) rfl ?_
      refine g_aload_n (np := 245) B.1 dL_begun_244 rfl rfl ?_
      refine g_bipush (np := 247) (v := 56) B.1 dL_begun_245 (by decide) rfl ?_
      refine g_iload_n (np := 248) B.1 dL_begun_247 rfl rfl ?_
      refine g_iadd (np := 249) B.1 dL_begun_248 rfl ?_
      refine g_bipush (np := 251) (v := 9) B.1 dL_begun_249 (by decide) rfl ?_
      refine gc_YLaw_108 (np := 254) B S hS (oL_in B.1.tr S hS (56 + v3) 9  _ _ _ h) (Nat.le_of_ble_eq_true rfl) (Nat.le_of_ble_eq_true rfl) (Nat.le_of_ble_eq_true rfl) (by omega) (by omega) dL_begun_251 rfl (fun r53 s54 h => ?_)
      refine g_iadd (np := 255) B.1 dL_begun_254 rfl ?_
      refine gc_YLaw_118 (np := 258) B   (oL_addOrder B.1.tr   (1 + r51) (1 + r53)  _ _ _ h) (Nat.le_of_ble_eq_true rfl) (Nat.le_of_ble_eq_true rfl) (Nat.le_of_ble_eq_true rfl) (by omega) (by omega) dL_begun_255 rfl (fun r55 s56 h => ?_)
      refine g_iadd (np := 259) B.1 dL_begun_258 rfl ?_
      refine g_iadd (np := 260) B.1 dL_begun_259 rfl ?_
      refine g_topi (fun v2_57 ev2_57 => ?_)
      replace h := h v2_57 ev2_57
      refine g_istore_n (np := 261) (lv' := [some (.ref (xen (fX K) 5 0)), some (.ref (xad (fX K) 14 0)), some (.int v2_57), some (.int v3)]) B.1 dL_begun_260 (by decide) rfl rfl rfl ?_
      obtain ⟨v3_58, ev3_58⟩ : ∃ y : Int32, y = v3 + 1 := ⟨_, rfl⟩
      replace h := h v3_58 ev3_58
      refine g_iinc (np := 264) (v := v3_58) (lv' := [some (.ref (xen (fX K) 5 0)), some (.ref (xad (fX K) 14 0)), some (.int v2_57), some (.int v3_58)]) B.1 dL_begun_261 rfl (by rw [ev3_58]; rfl) (by decide) rfl rfl rfl ?_
      refine g_goto (tgt := 183) B.1 dL_begun_264 (by decide) ?_
      refine Go.lle [some (.ref (xen (fX K) 5 0)), some (.ref (xad (fX K) 14 0)), some (.int v2_57), some (.int v3_58)] (by simp [lle]) ?_
      exact ih (by omega) (by omega) v2_57 v3_58 s56 h
set_option maxRecDepth 20000 in
set_option maxHeartbeats 4000000 in
theorem oL_begun {l : Launch} {x : Ctx} (hl : l.stackTraces = false) (D : va_G) (ct : Nat → ClassId) (hb : Nat) (xe : Nat → Nat → Nat) (hx0 : x = ctx0 D ct hb xe) (hN : New x) (S : Scr) (hS : scr x = S) (Q : Mem → Prop) (h : wL_begun S (mem0 hb) Q (fun _ _ => False)) : Met l yL_begun (Cond.code yL_begun cL_begun 4 (some (.object "YarnMill")) :: lw_good) ({ frames := 10, cells := 320, slots := 5977, locals := 216 }) (va_Pc [.ref (xen x 5 0)] (RWd x [])) (QMB x Q) 320 5977 (XA x) := by
  refine MetB.of hl (by decide) (Nat.le_of_ble_eq_true rfl) [some (.ref (xen x 5 0)), none, none, none] rfl (fun K B eQ hao hx _ => ?_)
  subst hx
  refine c_new (np := 3) B.1 (ci := 13) (C := "YarnMill") (T := TX12) (N := 13) rfl (fs := [.null, .null, .null, .int 0, .null, .null, .null, .null, .null, .null, .null, .int 0, .int 0]) inX12 tyX12 tyX12_ok (by intro j hj; match j, hj with | 0, _ => rfl | 1, _ => rfl | 2, _ => rfl | 3, _ => rfl | 4, _ => rfl | 5, _ => rfl | 6, _ => rfl | 7, _ => rfl | 8, _ => rfl | 9, _ => rfl | 10, _ => rfl | 11, _ => rfl | 12, _ => rfl | _ + 13, hj => exact absurd hj (by omega)) b_947 b_516 b_26 (n := 0) rfl (by rw [B.2.1]; exact Nat.le_of_ble_eq_true rfl) (by rw [B.2.1]; exact Nat.le_of_ble_eq_true rfl) dL_begun_0 rfl ?_
  refine c_dup (np := 4) B.1 dL_begun_3 rfl rfl ?_
  refine c_call (np := 7) B.1 hao (n := 0) (As := []) (kX12_init B.1.tr ([]) 0 rfl) b_950 b_948 b_949 b_26 rfl (by decide +kernel) rfl (by rw [B.2.1]; exact Nat.le_of_ble_eq_true rfl) (by rw [B.2.1]; exact Nat.le_of_ble_eq_true rfl) (Nat.le_of_ble_eq_true rfl) dL_begun_4 (by rw [B.2.1]; exact Nat.le_of_ble_eq_true rfl) (by rw [B.2.1]; exact Nat.le_of_ble_eq_true rfl) rfl ?_
  refine c_astore_n (lv' := [some (.ref (xen (fX K) 5 0)), some (.ref (xb (fX K) + 0)), none, none]) (np := 8) B.1 dL_begun_7 (by decide) rfl rfl rfl ?_
  intro H locs ls hC hS0 hL
  obtain ⟨s0, hs0⟩ : ∃ s0 : Mem, s0 = mem0 hb := ⟨_, rfl⟩
  rw [← hs0] at h
  have hC0 : Cells (fX K) s0 H := by
    have hN2 := hN
    rw [hx0] at hC hN2 ⊢
    rw [hs0]
    exact cells0 D ct hb xe hN2 hC
  have hD0 : Dis (fX K) s0 := by
    have hN2 := hN
    rw [hx0] at hN2 ⊢
    rw [hs0]
    exact dis0 D ct hb xe hN2
  have ead : xad (fX K) 14 0 = xb (fX K) + 0 := by rw [hx0]; rfl
  rw [← ead] at hL
  replace B := BdB.to B eQ
  refine (show Go K 277 5719 s0 8 [some (.ref (xen (fX K) 5 0)), some (.ref (xad (fX K) 14 0)), none, none] [] from ?_) H locs ls hC0 hD0 hS0 hL
  clear hC0 hD0 hS0 hL hC
  unfold wL_begun at h
  refine g_iconst (np := 9) (v := 0) B.1 dL_begun_8 (by decide) rfl ?_
  refine g_istore_n (np := 10) (lv' := [some (.ref (xen (fX K) 5 0)), some (.ref (xad (fX K) 14 0)), some (.int 0), none]) B.1 dL_begun_9 (by decide) rfl rfl rfl ?_
  refine g_iconst (np := 11) (v := 0) B.1 dL_begun_10 (by decide) rfl ?_
  refine g_istore_n (np := 12) (lv' := [some (.ref (xen (fX K) 5 0)), some (.ref (xad (fX K) 14 0)), some (.int 0), some (.int 0)]) B.1 dL_begun_11 (by decide) rfl rfl rfl ?_
  obtain ⟨m63, hm_, h⟩ := h
  refine Go.lle [some (.ref (xen (fX K) 5 0)), some (.ref (xad (fX K) 14 0)), some (.int 0), some (.int 0)] (by simp [lle]) ?_
  refine oL_begun_12 B S  hS (fun x2_13 s14 h => ?_) (CM := 287) (SM := 5779) (Nat.le_of_ble_eq_true rfl) (Nat.le_of_ble_eq_true rfl) m63 (by omega) (by omega) 0 0  s0 h
  refine g_iload_n (np := 74) B.1 dL_begun_73 rfl rfl ?_
  refine g_aload_n (np := 75) B.1 dL_begun_74 rfl rfl ?_
  refine g_iconst (np := 76) (v := 1) B.1 dL_begun_75 (by decide) rfl ?_
  refine g_aload_n (np := 77) B.1 dL_begun_76 rfl rfl ?_
  refine g_bipush (np := 79) (v := 30) B.1 dL_begun_77 (by decide) rfl ?_
  refine g_bipush (np := 81) (v := 30) B.1 dL_begun_79 (by decide) rfl ?_
  refine gc_YLaw_108 (np := 84) B S hS (oL_in B.1.tr S hS 30 30  _ _ _ h) (Nat.le_of_ble_eq_true rfl) (Nat.le_of_ble_eq_true rfl) (Nat.le_of_ble_eq_true rfl) (Nat.le_of_ble_eq_true rfl) (Nat.le_of_ble_eq_true rfl) dL_begun_81 rfl (fun r15 s16 h => ?_)
  refine g_iadd (np := 85) B.1 dL_begun_84 rfl ?_
  refine g_bipush (np := 87) (v := 10) B.1 dL_begun_85 (by decide) rfl ?_
  refine g_aload_n (np := 88) B.1 dL_begun_87 rfl rfl ?_
  refine g_bipush (np := 90) (v := 31) B.1 dL_begun_88 (by decide) rfl ?_
  refine g_bipush (np := 92) (v := 20) B.1 dL_begun_90 (by decide) rfl ?_
  refine gc_YLaw_108 (np := 95) B S hS (oL_in B.1.tr S hS 31 20  _ _ _ h) (Nat.le_of_ble_eq_true rfl) (Nat.le_of_ble_eq_true rfl) (Nat.le_of_ble_eq_true rfl) (Nat.le_of_ble_eq_true rfl) (Nat.le_of_ble_eq_true rfl) dL_begun_92 rfl (fun r17 s18 h => ?_)
  refine g_iadd (np := 96) B.1 dL_begun_95 rfl ?_
  refine gc_YLaw_115 (np := 99) B   (oL_blend B.1.tr   (1 + r15) (10 + r17)  _ _ _ h) (Nat.le_of_ble_eq_true rfl) (Nat.le_of_ble_eq_true rfl) (Nat.le_of_ble_eq_true rfl) (Nat.le_of_ble_eq_true rfl) (Nat.le_of_ble_eq_true rfl) dL_begun_96 rfl (fun r19 s20 h => ?_)
  refine g_iadd (np := 100) B.1 dL_begun_99 rfl ?_
  refine g_topi (fun v2_21 ev2_21 => ?_)
  replace h := h v2_21 ev2_21
  refine g_istore_n (np := 101) (lv' := [some (.ref (xen (fX K) 5 0)), some (.ref (xad (fX K) 14 0)), some (.int v2_21), none]) B.1 dL_begun_100 (by decide) rfl rfl rfl ?_
  refine g_iconst (np := 102) (v := 0) B.1 dL_begun_101 (by decide) rfl ?_
  refine g_istore_n (np := 103) (lv' := [some (.ref (xen (fX K) 5 0)), some (.ref (xad (fX K) 14 0)), some (.int v2_21), some (.int 0)]) B.1 dL_begun_102 (by decide) rfl rfl rfl ?_
  obtain ⟨m62, hm_, h⟩ := h
  refine Go.lle [some (.ref (xen (fX K) 5 0)), some (.ref (xad (fX K) 14 0)), some (.int v2_21), some (.int 0)] (by simp [lle]) ?_
  refine oL_begun_103 B S  hS (fun x2_32 s33 h => ?_) (CM := 298) (SM := 5845) (Nat.le_of_ble_eq_true rfl) (Nat.le_of_ble_eq_true rfl) m62 (by omega) (by omega) v2_21 0  s20 h
  refine g_iload_n (np := 154) B.1 dL_begun_153 rfl rfl ?_
  refine g_aload_n (np := 155) B.1 dL_begun_154 rfl rfl ?_
  refine g_aload_n (np := 156) B.1 dL_begun_155 rfl rfl ?_
  refine g_bipush (np := 158) (v := 46) B.1 dL_begun_156 (by decide) rfl ?_
  refine g_iconst (np := 159) (v := 3) B.1 dL_begun_158 (by decide) rfl ?_
  refine gc_YLaw_108 (np := 162) B S hS (oL_in B.1.tr S hS 46 3  _ _ _ h) (Nat.le_of_ble_eq_true rfl) (Nat.le_of_ble_eq_true rfl) (Nat.le_of_ble_eq_true rfl) (Nat.le_of_ble_eq_true rfl) (Nat.le_of_ble_eq_true rfl) dL_begun_159 rfl (fun r34 s35 h => ?_)
  refine gc_YLaw_120 (np := 165) B   (oL_spin B.1.tr   r34  _ _ _ h) (Nat.le_of_ble_eq_true rfl) (Nat.le_of_ble_eq_true rfl) (Nat.le_of_ble_eq_true rfl) (Nat.le_of_ble_eq_true rfl) (Nat.le_of_ble_eq_true rfl) dL_begun_162 rfl (fun r36 s37 h => ?_)
  refine g_aload_n (np := 166) B.1 dL_begun_165 rfl rfl ?_
  refine g_iconst (np := 167) (v := 1) B.1 dL_begun_166 (by decide) rfl ?_
  refine g_aload_n (np := 168) B.1 dL_begun_167 rfl rfl ?_
  refine g_bipush (np := 170) (v := 47) B.1 dL_begun_168 (by decide) rfl ?_
  refine g_iconst (np := 171) (v := 3) B.1 dL_begun_170 (by decide) rfl ?_
  refine gc_YLaw_108 (np := 174) B S hS (oL_in B.1.tr S hS 47 3  _ _ _ h) (Nat.le_of_ble_eq_true rfl) (Nat.le_of_ble_eq_true rfl) (Nat.le_of_ble_eq_true rfl) (Nat.le_of_ble_eq_true rfl) (Nat.le_of_ble_eq_true rfl) dL_begun_171 rfl (fun r38 s39 h => ?_)
  refine g_iadd (np := 175) B.1 dL_begun_174 rfl ?_
  refine gc_YLaw_123 (np := 178) B   (oL_setMachines B.1.tr   (1 + r38)  _ _ _ h) (Nat.le_of_ble_eq_true rfl) (Nat.le_of_ble_eq_true rfl) (Nat.le_of_ble_eq_true rfl) (Nat.le_of_ble_eq_true rfl) (Nat.le_of_ble_eq_true rfl) dL_begun_175 rfl (fun r40 s41 h => ?_)
  refine g_iadd (np := 179) B.1 dL_begun_178 rfl ?_
  refine g_iadd (np := 180) B.1 dL_begun_179 rfl ?_
  refine g_topi (fun v2_42 ev2_42 => ?_)
  replace h := h v2_42 ev2_42
  refine g_istore_n (np := 181) (lv' := [some (.ref (xen (fX K) 5 0)), some (.ref (xad (fX K) 14 0)), some (.int v2_42), none]) B.1 dL_begun_180 (by decide) rfl rfl rfl ?_
  refine g_iconst (np := 182) (v := 0) B.1 dL_begun_181 (by decide) rfl ?_
  refine g_istore_n (np := 183) (lv' := [some (.ref (xen (fX K) 5 0)), some (.ref (xad (fX K) 14 0)), some (.int v2_42), some (.int 0)]) B.1 dL_begun_182 (by decide) rfl rfl rfl ?_
  obtain ⟨m61, hm_, h⟩ := h
  refine Go.lle [some (.ref (xen (fX K) 5 0)), some (.ref (xad (fX K) 14 0)), some (.int v2_42), some (.int 0)] (by simp [lle]) ?_
  refine oL_begun_183 B S  hS (fun x2_59 s60 h => ?_) (CM := 320) (SM := 5977) (Nat.le_of_ble_eq_true rfl) (Nat.le_of_ble_eq_true rfl) m61 (by omega) (by omega) v2_42 0  s41 h
  refine g_iload_n (np := 268) B.1 dL_begun_267 rfl rfl ?_
  refine g_ldc (np := 270) (v := (-90000000)) B.1 b_1242 dL_begun_268 rfl ?_
  refine g_icmp_ge (np := 273) (tgt := 277) B.1 dL_begun_270 (by decide) rfl (fun q => ?_) (fun q => ?_)
  · replace h := h.1 q
    refine g_aload_n (np := 278) B.1 dL_begun_277 rfl rfl ?_
    exact g_aret B rfl (Or.inl ⟨_, rfl⟩) (Or.inr ⟨_, rfl⟩) (Nat.le_of_ble_eq_true rfl) (Nat.le_of_ble_eq_true rfl) dL_begun_278 ⟨rfl, h⟩
  · replace h := h.2 q
    exact h.elim
