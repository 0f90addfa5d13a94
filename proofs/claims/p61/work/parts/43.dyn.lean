/-! TEXTS MADE IN THE RUN -/
theorem inJ0 : ∀ w ∈ u_ws RJ0 TJ0 4, w ∈ lw_good := List.forall_mem_cons.mpr ⟨bB 386 (by decide +kernel) (by decide +kernel), List.forall_mem_cons.mpr ⟨bB 388 (by decide +kernel) (by decide +kernel), List.forall_mem_cons.mpr ⟨bB 390 (by decide +kernel) (by decide +kernel), List.forall_mem_cons.mpr ⟨bB 392 (by decide +kernel) (by decide +kernel), List.forall_mem_nil _⟩⟩⟩⟩

section DY
variable {K : Fr} {cells slots : Nat} {σ : Mem} {cc : ByteArray} {own : String} {nL pc : Nat} {lv lv' : List (Option Value)} {st : List Value}
theorem g_strVd (F : Fx K cc own nL) (k : Nat) (hk : k < oCnt (fX K) 21) {i : Nat} (hlink : Cond.fieldLink own i "java/lang/String" "value" "[B" ∈ lw_good) (hne : ¬ rd σ 20 k 0 = 0) (hdg : decode cc pc = .ok (.getfield i, 3)) {np : Nat} (hp : pc + 3 = np) (kk : Go K cells slots σ np lv (.ref (σ.2.2.2.1 k) :: st)) : Go K cells slots σ pc lv (.ref (xad (fX K) 20 k) :: st) := by
  have he : el (fX K) σ 20 k = .inr (0, [.ref (σ.2.2.2.1 k), .int (rd σ 20 k 1), .int (rd σ 20 k 2), .int (rd σ 20 k 3)]) := by
    show (Sum.inr (0, [va_rf (if rd σ 20 k 0 = 0 then none else some (σ.2.2.2.1 k)), _, _, _]) : va_E) = _
    rw [if_neg hne]
    rfl
  exact g_get F 20 k (c20 hk) rfl he rfl inJ0 0 (by decide) hlink rfl rfl hdg hp kk
theorem g_baldS (F : Fx K cc own nL) (k : Nat) (hk : k < oCnt (fX K) 21) {i : Int32} (hin : vp_in i (σ.2.2.2.2 k)) (hdg : decode cc pc = .ok (.baload, 1)) {np : Nat} (hp : pc + 1 = np) (kk : Go K cells slots σ np lv (.int (rd σ 21 k i.toNatClampNeg) :: st)) : Go K cells slots σ pc lv (.int i :: .ref (σ.2.2.2.1 k) :: st) := by
  subst hp
  intro H locs ls hC hD hS hL
  have hP : va_P (xD (fX K)) vwCl [(adr (fX K) σ 21 k, .inl (xct (fX K) 3, σ.2.2.2.2 k, .inl (fun j => rd σ 21 k j)))] H := by
    intro j q hq
    match j, hq with
    | 0, hq => cases hq; exact hC 21 k hk
    | j + 1, hq => simp at hq
  exact va_bald F.x F.b F.k hP 0 3 rfl rfl hin hdg (kk H locs ls hC hD hS hL)
end DY
theorem b_1314 : Cond.methodLink "YarnMillLaw" 90 yJ0_length_8abf5 ∈ lw_good := bB 1314 (by decide +kernel) (by decide +kernel)
theorem b_1315 : Cond.methodLink "YarnMillLaw" 95 yJ0_charAt_5068e ∈ lw_good := bB 1315 (by decide +kernel) (by decide +kernel)
theorem b_1330 : Cond.methodLink "YarnMillLaw" 99 yX12_type ∈ lw_good := bB 1330 (by decide +kernel) (by decide +kernel)
theorem b_1331 : Cond.instanceMethod yX12_type ∈ lw_good := bB 1331 (by decide +kernel) (by decide +kernel)
theorem b_1332 : Cond.selects "YarnMill" yX12_type yX12_type ∈ lw_good := bB 1332 (by decide +kernel) (by decide +kernel)
theorem b_1333 : Cond.code yX12_type cX12_type 2 (some .int) ∈ lw_good := bB 1333 (by decide +kernel) (by decide +kernel)
theorem b_1346 : Cond.constant "YarnMillLaw" 103 (-900009 : Int32) ∈ lw_good := bB 1346 (by decide +kernel) (by decide +kernel)
theorem b_1347 : Cond.methodLink "YarnMillLaw" 104 yL_runScript ∈ lw_good := bB 1347 (by decide +kernel) (by decide +kernel)
theorem b_1348 : Cond.static yL_runScript ∈ lw_good := bB 1348 (by decide +kernel) (by decide +kernel)
theorem b_1349 : Cond.codeWith yL_runScript cL_runScript 2 (some .int) [((0 : Nat), (4 : Nat), (5 : Nat), (15 : Nat)), ((0 : Nat), (4 : Nat), (9 : Nat), (18 : Nat))] ∈ lw_good := bB 1349 (by decide +kernel) (by decide +kernel)
theorem gf_java_lang_String_15_20 {K : Fr} {cells slots : Nat} {σ : Mem} {cc : ByteArray} {nL pc : Nat} {lv : List (Option Value)} {st : List Value} (F : Fx K cc "java/lang/String" nL) (k : Nat) (hk : k < oCnt (fX K) 20) (hdg : decode cc pc = .ok (.getfield 15, 3)) {np : Nat} (hp : pc + 3 = np) (kk : Go K cells slots σ np lv (.int (rd σ 20 k 1) :: st)) : Go K cells slots σ pc lv (.ref (xad (fX K) 20 k) :: st) := g_get F 20 k hk rfl rfl rfl inJ0 1 (by decide) b_385 rfl rfl hdg hp kk
theorem gc_java_lang_String_335_d {K : Fr} {cells slots : Nat} {σ : Mem} {cc : ByteArray} {nL pc fr lo mc ms : Nat} {ret : Option FieldType} {Qm : Option Value → Mem → Prop} {E : String → Mem → Prop} {lv : List (Option Value)} {st : List Value} (B : Bd K cc "java/lang/String" nL ret fr lo mc ms Qm E) (k : Nat) (hk : k < oCnt (fX K) 21)  {Q : Int32 → Mem → Prop} (hM : MetG (fL K) (fX K) yJ0_coder_7d493 cJ0_coder_7d493 1 (some .byte) 0 0 0 0 [.ref (xad (fX K) 20 k)] σ (RI Q) E) (hfr : 1 ≤ fr) (hlo : 20 ≤ lo) (hst : (st.map fun v => v.category).sum ≤ 8) (hc : cells ≤ mc) (hs : slots ≤ ms) (hdg : decode cc pc = .ok (.invokevirtual 335, 3)) {np : Nat} (hp : pc + 3 = np) (kk : ∀ (r : Int32) (τ : Mem), Q r τ → Go K cells slots τ np lv (.int r :: st)) : Go K cells slots σ pc lv (.ref (xad (fX K) 20 k) :: st) := g_callV B 20 k (c20 hk) rfl rfl rfl hM b_198 b_195 b_196 b_197 b_39 (n := 0) (by decide +kernel) rfl hfr hlo hst hdg hc hs (fun _ _ q => q) hp (fun r τ ⟨i, e, q⟩ => by subst e; exact kk i τ q)
theorem gc_java_lang_String_492_d {K : Fr} {cells slots : Nat} {σ : Mem} {cc : ByteArray} {nL pc fr lo mc ms : Nat} {ret : Option FieldType} {Qm : Option Value → Mem → Prop} {E : String → Mem → Prop} {lv : List (Option Value)} {st : List Value} (B : Bd K cc "java/lang/String" nL ret fr lo mc ms Qm E) (k : Nat) (hk : k < oCnt (fX K) 21)  {Q : Int32 → Mem → Prop} (hM : MetG (fL K) (fX K) yJ0_isLatin1_aae02 cJ0_isLatin1_aae02 1 (some .boolean) 0 0 0 0 [.ref (xad (fX K) 20 k)] σ (RI Q) E) (hfr : 1 ≤ fr) (hlo : 20 ≤ lo) (hst : (st.map fun v => v.category).sum ≤ 8) (hc : cells ≤ mc) (hs : slots ≤ ms) (hdg : decode cc pc = .ok (.invokevirtual 492, 3)) {np : Nat} (hp : pc + 3 = np) (kk : ∀ (r : Int32) (τ : Mem), Q r τ → Go K cells slots τ np lv (.int r :: st)) : Go K cells slots σ pc lv (.ref (xad (fX K) 20 k) :: st) := g_callV B 20 k (c20 hk) rfl rfl rfl hM b_1322 b_1319 b_1320 b_1321 b_39 (n := 0) (by decide +kernel) rfl hfr hlo hst hdg hc hs (fun _ _ q => q) hp (fun r τ ⟨i, e, q⟩ => by subst e; exact kk i τ q)
theorem gc_java_lang_String_495_d {K : Fr} {cells slots : Nat} {σ : Mem} {cc : ByteArray} {nL pc fr lo mc ms : Nat} {ret : Option FieldType} {Qm : Option Value → Mem → Prop} {E : String → Mem → Prop} {lv : List (Option Value)} {st : List Value} (B : Bd K cc "java/lang/String" nL ret fr lo mc ms Qm E) (k : Nat) (hk : k < oCnt (fX K) 21) {a2 : Int32} {Q : Int32 → Mem → Prop} (hM : MetG (fL K) (fX K) yJ1_charAt_3b067 cJ1_charAt_3b067 2 (some .char) 2 51 0 0 [.ref (σ.2.2.2.1 k), .int a2] σ (RI Q) E) (hfr : 3 ≤ fr) (hlo : 72 ≤ lo) (hst : (st.map fun v => v.category).sum ≤ 8) (hc : cells ≤ mc) (hs : slots ≤ ms) (hdg : decode cc pc = .ok (.invokestatic 495, 3)) {np : Nat} (hp : pc + 3 = np) (kk : ∀ (r : Int32) (τ : Mem), Q r τ → Go K cells slots τ np lv (.int r :: st)) : Go K cells slots σ pc lv (.int a2 :: .ref (σ.2.2.2.1 k) :: st) := g_callS B (n := 2) hM b_1325 b_1323 b_1324 b_58 (by decide +kernel) rfl hfr hlo hst hdg hc hs (fun _ _ q => q) hp (fun r τ ⟨i, e, q⟩ => by subst e; exact kk i τ q)
theorem gc_YLaw_90_d {K : Fr} {cells slots : Nat} {σ : Mem} {cc : ByteArray} {nL pc fr lo mc ms : Nat} {ret : Option FieldType} {Qm : Option Value → Mem → Prop} {E : String → Mem → Prop} {lv : List (Option Value)} {st : List Value} (B : Bd K cc "YarnMillLaw" nL ret fr lo mc ms Qm E) (k : Nat) (hk : k < oCnt (fX K) 21)  {Q : Int32 → Mem → Prop} (hM : MetG (fL K) (fX K) yJ0_length_8abf5 cJ0_length_8abf5 1 (some .int) 1 20 0 0 [.ref (xad (fX K) 20 k)] σ (RI Q) E) (hfr : 2 ≤ fr) (hlo : 40 ≤ lo) (hst : (st.map fun v => v.category).sum ≤ 8) (hc : cells ≤ mc) (hs : slots ≤ ms) (hdg : decode cc pc = .ok (.invokevirtual 90, 3)) {np : Nat} (hp : pc + 3 = np) (kk : ∀ (r : Int32) (τ : Mem), Q r τ → Go K cells slots τ np lv (.int r :: st)) : Go K cells slots σ pc lv (.ref (xad (fX K) 20 k) :: st) := g_callV B 20 k (c20 hk) rfl rfl rfl hM b_194 b_1314 b_192 b_193 b_39 (n := 0) (by decide +kernel) rfl hfr hlo hst hdg hc hs (fun _ _ q => q) hp (fun r τ ⟨i, e, q⟩ => by subst e; exact kk i τ q)
theorem gc_YLaw_95_d {K : Fr} {cells slots : Nat} {σ : Mem} {cc : ByteArray} {nL pc fr lo mc ms : Nat} {ret : Option FieldType} {Qm : Option Value → Mem → Prop} {E : String → Mem → Prop} {lv : List (Option Value)} {st : List Value} (B : Bd K cc "YarnMillLaw" nL ret fr lo mc ms Qm E) (k : Nat) (hk : k < oCnt (fX K) 21) {a1 : Int32} {Q : Int32 → Mem → Prop} (hM : MetG (fL K) (fX K) yJ0_charAt_5068e cJ0_charAt_5068e 2 (some .char) 3 72 0 0 [.ref (xad (fX K) 20 k), .int a1] σ (RI Q) E) (hfr : 4 ≤ fr) (hlo : 93 ≤ lo) (hst : (st.map fun v => v.category).sum ≤ 8) (hc : cells ≤ mc) (hs : slots ≤ ms) (hdg : decode cc pc = .ok (.invokevirtual 95, 3)) {np : Nat} (hp : pc + 3 = np) (kk : ∀ (r : Int32) (τ : Mem), Q r τ → Go K cells slots τ np lv (.int r :: st)) : Go K cells slots σ pc lv (.int a1 :: .ref (xad (fX K) 20 k) :: st) := g_callV B 20 k (c20 hk) rfl rfl rfl hM b_1318 b_1315 b_1316 b_1317 b_39 (n := 1) (by decide +kernel) rfl hfr hlo hst hdg hc hs (fun _ _ q => q) hp (fun r τ ⟨i, e, q⟩ => by subst e; exact kk i τ q)
theorem gc_YLaw_99 {K : Fr} {cells slots : Nat} {σ : Mem} {cc : ByteArray} {nL pc fr lo mc ms : Nat} {ret : Option FieldType} {Qm : Option Value → Mem → Prop} {E : String → Mem → Prop} {lv : List (Option Value)} {st : List Value} (B : Bd K cc "YarnMillLaw" nL ret fr lo mc ms Qm E)   {a1 : Int32} {Q : Int32 → Mem → Prop} (hM : MetG (fL K) (fX K) yX12_type cX12_type 2 (some .int) 10 285 1 302 [.ref (xad (fX K) 14 0), .int a1] σ (RI Q) E) (hfr : 11 ≤ fr) (hlo : 306 ≤ lo) (hst : (st.map fun v => v.category).sum ≤ 8) (hc : cells + 1 ≤ mc) (hs : slots + 302 ≤ ms) (hdg : decode cc pc = .ok (.invokevirtual 99, 3)) {np : Nat} (hp : pc + 3 = np) (kk : ∀ (r : Int32) (τ : Mem), Q r τ → Go K (cells + 1) (slots + 302) τ np lv (.int r :: st)) : Go K cells slots σ pc lv (.int a1 :: .ref (xad (fX K) 14 0) :: st) := g_callV B 14 0 (by decide : (0 : Nat) < 1) rfl rfl rfl hM b_1333 b_1330 b_1331 b_1332 b_26 (n := 1) (by decide +kernel) rfl hfr hlo hst hdg hc hs (fun _ _ q => q) hp (fun r τ ⟨i, e, q⟩ => by subst e; exact kk i τ q)
theorem gc_YLaw_104 {K : Fr} {cells slots : Nat} {σ : Mem} {cc : ByteArray} {nL pc fr lo mc ms : Nat} {ret : Option FieldType} {Qm : Option Value → Mem → Prop} {E : String → Mem → Prop} {lv : List (Option Value)} {st : List Value} (B : Bd K cc "YarnMillLaw" nL ret fr lo mc ms Qm E)    {Q : Int32 → Mem → Prop} (hM : MetH (fL K) (fX K) yL_runScript cL_runScript 2 [(0, 4, 5, 15), (0, 4, 9, 18)] 11 306 2 308 [.ref (xad (fX K) 14 0)] σ (RI Q)) (hfr : 12 ≤ fr) (hlo : 327 ≤ lo) (hst : (st.map fun v => v.category).sum ≤ 8) (hc : cells + 2 ≤ mc) (hs : slots + 308 ≤ ms) (hdg : decode cc pc = .ok (.invokestatic 104, 3)) {np : Nat} (hp : pc + 3 = np) (kk : ∀ (r : Int32) (τ : Mem), Q r τ → Go K (cells + 2) (slots + 308) τ np lv (.int r :: st)) : Go K cells slots σ pc lv (.ref (xad (fX K) 14 0) :: st) := g_callSH B (n := 1) hM b_1349 b_1347 b_1348 b_25 (by decide +kernel) rfl hfr hlo hst hdg hc hs hp (fun r τ ⟨i, e, q⟩ => by subst e; exact kk i τ q)
def wJ0_isLatin1_aae02_d (k : Nat)  (s0 : Mem) (Q : Int32 → Mem → Prop) (E : String → Mem → Prop) : Prop := ((¬ rd s0 20 k 1 = 0 → Q 0 s0) ∧ (rd s0 20 k 1 = 0 → Q 1 s0))
set_option maxRecDepth 20000 in
set_option maxHeartbeats 4000000 in
theorem oJ0_isLatin1_aae02_d {l : Launch} {x : Ctx} (hl : l.stackTraces = false) (k : Nat) (hk : k < oCnt x 21)   (s0 : Mem) (Q : Int32 → Mem → Prop) (E : String → Mem → Prop) (h : wJ0_isLatin1_aae02_d k  s0 Q E) : MetG l x yJ0_isLatin1_aae02 cJ0_isLatin1_aae02 1 (some .boolean) 0 0 0 0 [.ref (xad x 20 k)] s0 (RI Q) E := by
  refine MetG.of hl (by decide) (Nat.le_of_ble_eq_true rfl) [some (.ref (xad x 20 k))] rfl (fun K B hx _ => ?_)
  subst hx
  unfold wJ0_isLatin1_aae02_d at h
  refine g_compact (np := 3) B.1 b_199 dJ0_isLatin1_aae02_0 rfl ?_
  refine g_if_eq (np := 6) (tgt := 17) B.1 dJ0_isLatin1_aae02_3 (by decide) rfl (fun q => absurd q (by decide)) (fun _ => ?_)
  refine g_aload_n (np := 7) B.1 dJ0_isLatin1_aae02_6 rfl rfl ?_
  refine gf_java_lang_String_15_20 (np := 10) B.1 k (c20 hk) dJ0_isLatin1_aae02_7 rfl ?_
  refine g_if_ne (np := 13) (tgt := 17) B.1 dJ0_isLatin1_aae02_10 (by decide) rfl (fun q => ?_) (fun q => ?_)
  · replace h := h.1 q
    refine g_iconst (np := 18) (v := 0) B.1 dJ0_isLatin1_aae02_17 (by decide) rfl ?_
    exact g_iret B (ty := .boolean) rfl (by decide) (Nat.le_of_ble_eq_true rfl) (Nat.le_of_ble_eq_true rfl) dJ0_isLatin1_aae02_18 ⟨_, rfl, h⟩
  · replace h := h.2 q
    refine g_iconst (np := 14) (v := 1) B.1 dJ0_isLatin1_aae02_13 (by decide) rfl ?_
    refine g_goto (tgt := 18) B.1 dJ0_isLatin1_aae02_14 (by decide) ?_
    exact g_iret B (ty := .boolean) rfl (by decide) (Nat.le_of_ble_eq_true rfl) (Nat.le_of_ble_eq_true rfl) dJ0_isLatin1_aae02_18 ⟨_, rfl, h⟩
def wJ0_coder_7d493_d (k : Nat)  (s0 : Mem) (Q : Int32 → Mem → Prop) (E : String → Mem → Prop) : Prop := narrow .byte (.int (rd s0 20 k 1)) = .int (rd s0 20 k 1) ∧ Q (rd s0 20 k 1) s0
set_option maxRecDepth 20000 in
set_option maxHeartbeats 4000000 in
theorem oJ0_coder_7d493_d {l : Launch} {x : Ctx} (hl : l.stackTraces = false) (k : Nat) (hk : k < oCnt x 21)   (s0 : Mem) (Q : Int32 → Mem → Prop) (E : String → Mem → Prop) (h : wJ0_coder_7d493_d k  s0 Q E) : MetG l x yJ0_coder_7d493 cJ0_coder_7d493 1 (some .byte) 0 0 0 0 [.ref (xad x 20 k)] s0 (RI Q) E := by
  refine MetG.of hl (by decide) (Nat.le_of_ble_eq_true rfl) [some (.ref (xad x 20 k))] rfl (fun K B hx _ => ?_)
  subst hx
  unfold wJ0_coder_7d493_d at h
  refine g_compact (np := 3) B.1 b_199 dJ0_coder_7d493_0 rfl ?_
  refine g_if_eq (np := 6) (tgt := 13) B.1 dJ0_coder_7d493_3 (by decide) rfl (fun q => absurd q (by decide)) (fun _ => ?_)
  refine g_aload_n (np := 7) B.1 dJ0_coder_7d493_6 rfl rfl ?_
  refine gf_java_lang_String_15_20 (np := 10) B.1 k (c20 hk) dJ0_coder_7d493_7 rfl ?_
  refine g_goto (tgt := 14) B.1 dJ0_coder_7d493_10 (by decide) ?_
  exact g_iret B (ty := .byte) rfl h.1 (Nat.le_of_ble_eq_true rfl) (Nat.le_of_ble_eq_true rfl) dJ0_coder_7d493_14 ⟨_, rfl, h.2⟩
def wJ0_length_8abf5_d (k : Nat)  (s0 : Mem) (Q : Int32 → Mem → Prop) (E : String → Mem → Prop) : Prop := (¬ rd s0 20 k 0 = 0) ∧ wJ0_coder_7d493_d k  s0 (fun (r1 : Int32) (s2 : Mem) => s2 = s0 ∧ Q ((nI (s0.2.2.2.2 k)) >>> (r1 &&& 31)) s0) E
set_option maxRecDepth 20000 in
set_option maxHeartbeats 4000000 in
theorem oJ0_length_8abf5_d {l : Launch} {x : Ctx} (hl : l.stackTraces = false) (k : Nat) (hk : k < oCnt x 21)   (s0 : Mem) (Q : Int32 → Mem → Prop) (E : String → Mem → Prop) (h : wJ0_length_8abf5_d k  s0 Q E) : MetG l x yJ0_length_8abf5 cJ0_length_8abf5 1 (some .int) 1 20 0 0 [.ref (xad x 20 k)] s0 (RI Q) E := by
  refine MetG.of hl (by decide) (Nat.le_of_ble_eq_true rfl) [some (.ref (xad x 20 k))] rfl (fun K B hx _ => ?_)
  subst hx
  unfold wJ0_length_8abf5_d at h
  refine g_aload_n (np := 1) B.1 dJ0_length_8abf5_0 rfl rfl ?_
  refine g_strVd (np := 4) B.1 k hk b_384 h.1 dJ0_length_8abf5_1 rfl ?_
  replace h := h.2
  refine g_alen (np := 5) B.1 21 k hk rfl rfl (t0 := 3) rfl (v := nI (s0.2.2.2.2 k)) rfl dJ0_length_8abf5_4 rfl ?_
  refine g_aload_n (np := 6) B.1 dJ0_length_8abf5_5 rfl rfl ?_
  refine gc_java_lang_String_335_d (np := 9) B k hk (oJ0_coder_7d493_d B.1.tr k hk   _ _ _ h) (Nat.le_of_ble_eq_true rfl) (Nat.le_of_ble_eq_true rfl) (Nat.le_of_ble_eq_true rfl) (Nat.le_of_ble_eq_true rfl) (Nat.le_of_ble_eq_true rfl) dJ0_length_8abf5_6 rfl (fun r1 s2 h => ?_)
  obtain ⟨es2, h⟩ := h
  rw [es2]
  refine g_ishr (np := 10) B.1 dJ0_length_8abf5_9 rfl ?_
  exact g_iret B (ty := .int) rfl rfl (Nat.le_of_ble_eq_true rfl) (Nat.le_of_ble_eq_true rfl) dJ0_length_8abf5_10 ⟨_, rfl, h⟩
def wJ1_charAt_3b067_d (k : Nat) (a2 : Int32) (s0 : Mem) (Q : Int32 → Mem → Prop) (E : String → Mem → Prop) : Prop := wJ0_checkIndex_df160  a2 (nI (s0.2.2.2.2 k)) s0 (fun (s2 : Mem) => s2 = s0 ∧ vp_in a2 (s0.2.2.2.2 k) ∧ narrow .char (.int ((((rd s0 21 k a2.toNatClampNeg) &&& 255).toUInt32 % 65536).toInt32)) = .int ((((rd s0 21 k a2.toNatClampNeg) &&& 255).toUInt32 % 65536).toInt32) ∧ Q ((((rd s0 21 k a2.toNatClampNeg) &&& 255).toUInt32 % 65536).toInt32) s0) E
set_option maxRecDepth 20000 in
set_option maxHeartbeats 4000000 in
theorem oJ1_charAt_3b067_d {l : Launch} {x : Ctx} (hl : l.stackTraces = false) (k : Nat) (hk : k < oCnt x 21) (a2 : Int32)  (s0 : Mem) (Q : Int32 → Mem → Prop) (E : String → Mem → Prop) (h : wJ1_charAt_3b067_d k a2 s0 Q E) : MetG l x yJ1_charAt_3b067 cJ1_charAt_3b067 2 (some .char) 2 51 0 0 [.ref (s0.2.2.2.1 k), .int a2] s0 (RI Q) E := by
  refine MetG.of hl (by decide) (Nat.le_of_ble_eq_true rfl) [some (.ref (s0.2.2.2.1 k)), some (.int a2)] rfl (fun K B hx _ => ?_)
  subst hx
  unfold wJ1_charAt_3b067_d at h
  refine g_iload_n (np := 1) B.1 dJ1_charAt_3b067_0 rfl rfl ?_
  refine g_aload_n (np := 2) B.1 dJ1_charAt_3b067_1 rfl rfl ?_
  refine g_alen (np := 3) B.1 21 k hk rfl rfl (t0 := 3) rfl (v := nI (s0.2.2.2.2 k)) rfl dJ1_charAt_3b067_2 rfl ?_
  refine gc_java_lang_StringLatin1_9 (np := 6) B   (oJ0_checkIndex_df160 B.1.tr   a2 (nI (s0.2.2.2.2 k))  _ _ _ h) (Nat.le_of_ble_eq_true rfl) (Nat.le_of_ble_eq_true rfl) (Nat.le_of_ble_eq_true rfl) (Nat.le_of_ble_eq_true rfl) (Nat.le_of_ble_eq_true rfl) dJ1_charAt_3b067_3 rfl (fun s2 h => ?_)
  obtain ⟨es2, h⟩ := h
  rw [es2]
  refine g_aload_n (np := 7) B.1 dJ1_charAt_3b067_6 rfl rfl ?_
  refine g_iload_n (np := 8) B.1 dJ1_charAt_3b067_7 rfl rfl ?_
  refine g_baldS (np := 9) B.1 k hk h.1 dJ1_charAt_3b067_8 rfl ?_
  replace h := h.2
  refine g_sipush (np := 12) (v := 255) B.1 dJ1_charAt_3b067_9 (by decide) rfl ?_
  refine g_iand (np := 13) B.1 dJ1_charAt_3b067_12 rfl ?_
  refine g_i2c (np := 14) B.1 dJ1_charAt_3b067_13 rfl rfl ?_
  exact g_iret B (ty := .char) rfl h.1 (Nat.le_of_ble_eq_true rfl) (Nat.le_of_ble_eq_true rfl) dJ1_charAt_3b067_14 ⟨_, rfl, h.2⟩
def wJ0_charAt_5068e_d (k : Nat) (a1 : Int32) (s0 : Mem) (Q : Int32 → Mem → Prop) (E : String → Mem → Prop) : Prop := wJ0_isLatin1_aae02_d k  s0 (fun (r1 : Int32) (s2 : Mem) => s2 = s0 ∧ ((r1 = 0 → False) ∧ (¬ r1 = 0 → (¬ rd s0 20 k 0 = 0) ∧ wJ1_charAt_3b067_d k a1 s0 (fun (r3 : Int32) (s4 : Mem) => s4 = s0 ∧ narrow .char (.int r3) = .int r3 ∧ Q r3 s0) E))) E
set_option maxRecDepth 20000 in
set_option maxHeartbeats 4000000 in
theorem oJ0_charAt_5068e_d {l : Launch} {x : Ctx} (hl : l.stackTraces = false) (k : Nat) (hk : k < oCnt x 21) (a1 : Int32)  (s0 : Mem) (Q : Int32 → Mem → Prop) (E : String → Mem → Prop) (h : wJ0_charAt_5068e_d k a1 s0 Q E) : MetG l x yJ0_charAt_5068e cJ0_charAt_5068e 2 (some .char) 3 72 0 0 [.ref (xad x 20 k), .int a1] s0 (RI Q) E := by
  refine MetG.of hl (by decide) (Nat.le_of_ble_eq_true rfl) [some (.ref (xad x 20 k)), some (.int a1)] rfl (fun K B hx _ => ?_)
  subst hx
  unfold wJ0_charAt_5068e_d at h
  refine g_aload_n (np := 1) B.1 dJ0_charAt_5068e_0 rfl rfl ?_
  refine gc_java_lang_String_492_d (np := 4) B k hk (oJ0_isLatin1_aae02_d B.1.tr k hk   _ _ _ h) (Nat.le_of_ble_eq_true rfl) (Nat.le_of_ble_eq_true rfl) (Nat.le_of_ble_eq_true rfl) (Nat.le_of_ble_eq_true rfl) (Nat.le_of_ble_eq_true rfl) dJ0_charAt_5068e_1 rfl (fun r1 s2 h => ?_)
  obtain ⟨es2, h⟩ := h
  rw [es2]
  refine g_if_eq (np := 7) (tgt := 16) B.1 dJ0_charAt_5068e_4 (by decide) rfl (fun q => ?_) (fun q => ?_)
  · replace h := h.1 q
    exact h.elim
  · replace h := h.2 q
    refine g_aload_n (np := 8) B.1 dJ0_charAt_5068e_7 rfl rfl ?_
    refine g_strVd (np := 11) B.1 k hk b_384 h.1 dJ0_charAt_5068e_8 rfl ?_
    replace h := h.2
    refine g_iload_n (np := 12) B.1 dJ0_charAt_5068e_11 rfl rfl ?_
    refine gc_java_lang_String_495_d (np := 15) B k hk (oJ1_charAt_3b067_d B.1.tr k hk a1  _ _ _ h) (Nat.le_of_ble_eq_true rfl) (Nat.le_of_ble_eq_true rfl) (Nat.le_of_ble_eq_true rfl) (Nat.le_of_ble_eq_true rfl) (Nat.le_of_ble_eq_true rfl) dJ0_charAt_5068e_12 rfl (fun r3 s4 h => ?_)
    obtain ⟨es4, h⟩ := h
    rw [es4]
    exact g_iret B (ty := .char) rfl h.1 (Nat.le_of_ble_eq_true rfl) (Nat.le_of_ble_eq_true rfl) dJ0_charAt_5068e_15 ⟨_, rfl, h.2⟩

def wL_does_4 (k : Nat)  (Q : Int32 → Mem → Prop) (E : String → Mem → Prop)  (X30 : Int32 → Mem → Prop) : Nat → Int32 → Int32 → Mem → Prop
  | 0, _, _, _ => False
  | n4 + 1, v2, v3, s0 => wJ0_length_8abf5_d k  s0 (fun (r1 : Int32) (s2 : Mem) => s2 = s0 ∧ ((r1 ≤ v3 → X30 v2 s0) ∧ (¬ r1 ≤ v3 → wJ0_charAt_5068e_d k v3 s0 (fun (r3 : Int32) (s4 : Mem) => s4 = s0 ∧ wX12_type  r3 s0 (fun (r5 : Int32) (s6 : Mem) => ∀ v2_7 : Int32, v2_7 = (v2 + r5) → ∀ v3_8 : Int32, v3_8 = (v3 + 1) → wL_does_4 k  Q E X30 n4 v2_7 v3_8 s6) E) E))) E
def wL_does (k : Nat)  (s0 : Mem) (Q : Int32 → Mem → Prop) (E : String → Mem → Prop) : Prop := ∃ m13 : Nat, m13 ≤ 61 ∧ wL_does_4 k  Q E (fun (x2_9 : Int32) (s10 : Mem) => ((0 ≤ x2_9 → wL_runScript   s10 (fun (r11 : Int32) (s12 : Mem) => Q r11 s12) E) ∧ (¬ 0 ≤ x2_9 → Q ((-900009)) s10))) m13 0 0  s0
set_option maxRecDepth 20000 in
set_option maxHeartbeats 4000000 in
theorem oL_does_4 {K : Fr} {Q : Int32 → Mem → Prop} {E : String → Mem → Prop} (B : Bd K cL_does "YarnMillLaw" 4 (some .int) 12 327 63 18730 (RI Q) E) (k : Nat)  (hk : k < oCnt (fX K) 21) {X30 : Int32 → Mem → Prop} {CM SM : Nat} (hX30 : ∀ (y2 : Int32) (τ : Mem), X30 y2 τ → Go K CM SM τ 30 [some (.ref (xad (fX K) 14 0)), none, some (.int y2), none] ([])) (hCM : CM ≤ 63) (hSM : SM ≤ 18730) : ∀ (n : Nat) {cells slots : Nat} (hc : cells + n * 1 ≤ CM) (hs : slots + n * 302 ≤ SM) (v2 : Int32) (v3 : Int32) (s0 : Mem), wL_does_4 k  Q E X30 n v2 v3 s0 → Go K cells slots s0 4 [some (.ref (xad (fX K) 14 0)), some (.ref (xad (fX K) 20 k)), some (.int v2), some (.int v3)] ([]) := by
  intro n
  induction n with
  | zero => intro cells slots hc hs v2 v3 s0 h; exact absurd h (by simp [wL_does_4])
  | succ n ih =>
    intro cells slots hc hs v2 v3 s0 h
    simp only [wL_does_4] at h
    refine g_iload_n (np := 5) B.1 dL_does_4 rfl rfl ?_
    refine g_aload_n (np := 6) B.1 dL_does_5 rfl rfl ?_
    refine gc_YLaw_90_d (np := 9) B k hk (oJ0_length_8abf5_d B.1.tr k hk   _ _ _ h) (Nat.le_of_ble_eq_true rfl) (Nat.le_of_ble_eq_true rfl) (Nat.le_of_ble_eq_true rfl) (by omega) (by omega) dL_does_6 rfl (fun r1 s2 h => ?_)
    obtain ⟨es2, h⟩ := h
    rw [es2]
    refine g_icmp_ge (np := 12) (tgt := 30) B.1 dL_does_9 (by decide) rfl (fun q => ?_) (fun q => ?_)
    · replace h := h.1 q
      refine Go.lle [some (.ref (xad (fX K) 14 0)), none, some (.int v2), none] (by simp [lle]) ?_
      exact Go.widen (by omega) (by omega) (hX30 v2 s0 h)
    · replace h := h.2 q
      refine g_iload_n (np := 13) B.1 dL_does_12 rfl rfl ?_
      refine g_aload_n (np := 14) B.1 dL_does_13 rfl rfl ?_
      refine g_aload_n (np := 15) B.1 dL_does_14 rfl rfl ?_
      refine g_iload_n (np := 16) B.1 dL_does_15 rfl rfl ?_
      refine gc_YLaw_95_d (np := 19) B k hk (oJ0_charAt_5068e_d B.1.tr k hk v3  _ _ _ h) (Nat.le_of_ble_eq_true rfl) (Nat.le_of_ble_eq_true rfl) (Nat.le_of_ble_eq_true rfl) (by omega) (by omega) dL_does_16 rfl (fun r3 s4 h => ?_)
      obtain ⟨es4, h⟩ := h
      rw [es4]
      refine gc_YLaw_99 (np := 22) B   (oX12_type B.1.tr   r3  _ _ _ h) (Nat.le_of_ble_eq_true rfl) (Nat.le_of_ble_eq_true rfl) (Nat.le_of_ble_eq_true rfl) (by omega) (by omega) dL_does_19 rfl (fun r5 s6 h => ?_)
      refine g_iadd (np := 23) B.1 dL_does_22 rfl ?_
      refine g_topi (fun v2_7 ev2_7 => ?_)
      replace h := h v2_7 ev2_7
      refine g_istore_n (np := 24) (lv' := [some (.ref (xad (fX K) 14 0)), some (.ref (xad (fX K) 20 k)), some (.int v2_7), some (.int v3)]) B.1 dL_does_23 (by decide) rfl rfl rfl ?_
      obtain ⟨v3_8, ev3_8⟩ : ∃ y : Int32, y = v3 + 1 := ⟨_, rfl⟩
      replace h := h v3_8 ev3_8
      refine g_iinc (np := 27) (v := v3_8) (lv' := [some (.ref (xad (fX K) 14 0)), some (.ref (xad (fX K) 20 k)), some (.int v2_7), some (.int v3_8)]) B.1 dL_does_24 rfl (by rw [ev3_8]; rfl) (by decide) rfl rfl rfl ?_
      refine g_goto (tgt := 4) B.1 dL_does_27 (by decide) ?_
      refine Go.lle [some (.ref (xad (fX K) 14 0)), some (.ref (xad (fX K) 20 k)), some (.int v2_7), some (.int v3_8)] (by simp [lle]) ?_
      exact ih (by omega) (by omega) v2_7 v3_8 s6 h
set_option maxRecDepth 20000 in
set_option maxHeartbeats 4000000 in
theorem oL_does {l : Launch} {x : Ctx} (hl : l.stackTraces = false) (k : Nat) (hk : k < oCnt x 21)   (s0 : Mem) (Q : Int32 → Mem → Prop) (E : String → Mem → Prop) (h : wL_does k  s0 Q E) : MetG l x yL_does cL_does 4 (some .int) 12 327 63 18730 [.ref (xad x 14 0), .ref (xad x 20 k)] s0 (RI Q) E := by
  refine MetG.of hl (by decide) (Nat.le_of_ble_eq_true rfl) [some (.ref (xad x 14 0)), some (.ref (xad x 20 k)), none, none] rfl (fun K B hx _ => ?_)
  subst hx
  unfold wL_does at h
  refine g_iconst (np := 1) (v := 0) B.1 dL_does_0 (by decide) rfl ?_
  refine g_istore_n (np := 2) (lv' := [some (.ref (xad (fX K) 14 0)), some (.ref (xad (fX K) 20 k)), some (.int 0), none]) B.1 dL_does_1 (by decide) rfl rfl rfl ?_
  refine g_iconst (np := 3) (v := 0) B.1 dL_does_2 (by decide) rfl ?_
  refine g_istore_n (np := 4) (lv' := [some (.ref (xad (fX K) 14 0)), some (.ref (xad (fX K) 20 k)), some (.int 0), some (.int 0)]) B.1 dL_does_3 (by decide) rfl rfl rfl ?_
  obtain ⟨m13, hm_, h⟩ := h
  refine Go.lle [some (.ref (xad (fX K) 14 0)), some (.ref (xad (fX K) 20 k)), some (.int 0), some (.int 0)] (by simp [lle]) ?_
  refine oL_does_4 B k  hk (fun x2_9 s10 h => ?_) (CM := 61) (SM := 18422) (Nat.le_of_ble_eq_true rfl) (Nat.le_of_ble_eq_true rfl) m13 (by omega) (by omega) 0 0  s0 h
  refine g_iload_n (np := 31) B.1 dL_does_30 rfl rfl ?_
  refine g_if_ge (np := 34) (tgt := 39) B.1 dL_does_31 (by decide) rfl (fun q => ?_) (fun q => ?_)
  · replace h := h.1 q
    refine g_aload_n (np := 40) B.1 dL_does_39 rfl rfl ?_
    refine gc_YLaw_104 (np := 43) B   (oL_runScript B.1.tr     _ _ _ h) (Nat.le_of_ble_eq_true rfl) (Nat.le_of_ble_eq_true rfl) (Nat.le_of_ble_eq_true rfl) (Nat.le_of_ble_eq_true rfl) (Nat.le_of_ble_eq_true rfl) dL_does_40 rfl (fun r11 s12 h => ?_)
    exact g_iret B (ty := .int) rfl rfl (Nat.le_of_ble_eq_true rfl) (Nat.le_of_ble_eq_true rfl) dL_does_43 ⟨_, rfl, h⟩
  · replace h := h.2 q
    refine g_ldc (np := 36) (v := (-900009)) B.1 b_1346 dL_does_34 rfl ?_
    refine g_goto (tgt := 43) B.1 dL_does_36 (by decide) ?_
    exact g_iret B (ty := .int) rfl rfl (Nat.le_of_ble_eq_true rfl) (Nat.le_of_ble_eq_true rfl) dL_does_43 ⟨_, rfl, h⟩

