theorem b_147 : Cond.methodLink "java/util/Arrays" 310 ⟨"[B", "clone", "()Ljava/lang/Object;"⟩ ∈ lw_good := bB 147 (by decide +kernel) (by decide +kernel)
theorem b_148 : Cond.sameMethod "[B" "java/lang/Object" "clone" "()Ljava/lang/Object;" ∈ lw_good := bB 148 (by decide +kernel) (by decide +kernel)
theorem b_149 : Cond.native ⟨"java/lang/Object", "clone", "()Ljava/lang/Object;"⟩ ∈ lw_good := bB 149 (by decide +kernel) (by decide +kernel)
theorem b_150 : Cond.instanceMethod ⟨"java/lang/Object", "clone", "()Ljava/lang/Object;"⟩ ∈ lw_good := bB 150 (by decide +kernel) (by decide +kernel)
theorem b_151 : Cond.selects "[B" ⟨"[B", "clone", "()Ljava/lang/Object;"⟩ ⟨"java/lang/Object", "clone", "()Ljava/lang/Object;"⟩ ∈ lw_good := bB 151 (by decide +kernel) (by decide +kernel)
theorem t_152 : Cond.castable "[B" "java/lang/Cloneable" ∈ lw_tbl := List.mem_of_getElem? (i := 152) (by decide +kernel)
theorem b_153 : Cond.classLink "java/util/Arrays" 311 "[B" ∈ lw_good := bB 153 (by decide +kernel) (by decide +kernel)
theorem b_260 : Cond.instanceMethod yJ4_toString_0e30d ∈ lw_good := bB 260 (by decide +kernel) (by decide +kernel)
theorem b_261 : Cond.selects "java/lang/StringBuilder" yJ4_toString_0e30d yJ4_toString_0e30d ∈ lw_good := bB 261 (by decide +kernel) (by decide +kernel)
theorem b_262 : Cond.code yJ4_toString_0e30d cJ4_toString_0e30d 1 (some (.object "java/lang/String")) ∈ lw_good := bB 262 (by decide +kernel) (by decide +kernel)
theorem b_263 : Cond.classLink "java/lang/StringBuilder" 18 "java/lang/String" ∈ lw_good := bB 263 (by decide +kernel) (by decide +kernel)
theorem b_264 : Cond.instantiable "java/lang/String" 4 ∈ lw_good := bB 264 (by decide +kernel) (by decide +kernel)
theorem b_265 : Cond.methodLink "java/lang/StringBuilder" 137 yJ0_init_81219 ∈ lw_good := bB 265 (by decide +kernel) (by decide +kernel)
theorem b_266 : Cond.instanceMethod yJ0_init_81219 ∈ lw_good := bB 266 (by decide +kernel) (by decide +kernel)
theorem b_267 : Cond.code yJ0_init_81219 cJ0_init_81219 2 none ∈ lw_good := bB 267 (by decide +kernel) (by decide +kernel)
theorem b_268 : Cond.methodLink "java/lang/String" 489 yJ0_init_db425 ∈ lw_good := bB 268 (by decide +kernel) (by decide +kernel)
theorem b_269 : Cond.instanceMethod yJ0_init_db425 ∈ lw_good := bB 269 (by decide +kernel) (by decide +kernel)
theorem b_270 : Cond.code yJ0_init_db425 cJ0_init_db425 5 none ∈ lw_good := bB 270 (by decide +kernel) (by decide +kernel)
theorem b_271 : Cond.methodLink "java/lang/String" 1 Lib.objectInit ∈ lw_good := bB 271 (by decide +kernel) (by decide +kernel)
theorem b_272 : Cond.methodLink "java/lang/String" 552 yJ5_getValue_6d5f1 ∈ lw_good := bB 272 (by decide +kernel) (by decide +kernel)
theorem b_273 : Cond.instanceMethod yJ5_getValue_6d5f1 ∈ lw_good := bB 273 (by decide +kernel) (by decide +kernel)
theorem b_274 : Cond.sameMethod "java/lang/AbstractStringBuilder" "java/lang/AbstractStringBuilder" "getValue" "()[B" ∈ lw_good := bB 274 (by decide +kernel) (by decide +kernel)
theorem b_275 : Cond.selects "java/lang/StringBuilder" yJ5_getValue_6d5f1 yJ5_getValue_6d5f1 ∈ lw_good := bB 275 (by decide +kernel) (by decide +kernel)
theorem b_276 : Cond.code yJ5_getValue_6d5f1 cJ5_getValue_6d5f1 1 (some (.array .byte)) ∈ lw_good := bB 276 (by decide +kernel) (by decide +kernel)
theorem b_277 : Cond.methodLink "java/lang/String" 549 yJ5_length_8abf5 ∈ lw_good := bB 277 (by decide +kernel) (by decide +kernel)
theorem b_280 : Cond.selects "java/lang/StringBuilder" yJ5_length_8abf5 yJ4_length_8abf5 ∈ lw_good := bB 280 (by decide +kernel) (by decide +kernel)
theorem b_285 : Cond.methodLink "java/lang/String" 1047 yJ5_isLatin1_aae02 ∈ lw_good := bB 285 (by decide +kernel) (by decide +kernel)
theorem b_286 : Cond.methodLink "java/lang/String" 54 yJ7_copyOfRange_39247 ∈ lw_good := bB 286 (by decide +kernel) (by decide +kernel)
theorem b_287 : Cond.static yJ7_copyOfRange_39247 ∈ lw_good := bB 287 (by decide +kernel) (by decide +kernel)
theorem b_288 : Cond.code yJ7_copyOfRange_39247 cJ7_copyOfRange_39247 3 (some (.array .byte)) ∈ lw_good := bB 288 (by decide +kernel) (by decide +kernel)
theorem b_289 : Cond.methodLink "java/util/Arrays" 339 yJ7_copyOfRangeByte_39247 ∈ lw_good := bB 289 (by decide +kernel) (by decide +kernel)
theorem b_290 : Cond.static yJ7_copyOfRangeByte_39247 ∈ lw_good := bB 290 (by decide +kernel) (by decide +kernel)
theorem b_291 : Cond.code yJ7_copyOfRangeByte_39247 cJ7_copyOfRangeByte_39247 5 (some (.array .byte)) ∈ lw_good := bB 291 (by decide +kernel) (by decide +kernel)
theorem b_292 : Cond.methodLink "java/util/Arrays" 343 yJ7_checkLength_df160 ∈ lw_good := bB 292 (by decide +kernel) (by decide +kernel)
theorem b_293 : Cond.static yJ7_checkLength_df160 ∈ lw_good := bB 293 (by decide +kernel) (by decide +kernel)
theorem b_294 : Cond.code yJ7_checkLength_df160 cJ7_checkLength_df160 2 none ∈ lw_good := bB 294 (by decide +kernel) (by decide +kernel)
theorem b_1304 : Cond.methodLink "YarnMillLaw" 165 yJ4_toString_0e30d ∈ lw_good := bB 1304 (by decide +kernel) (by decide +kernel)
theorem gc_java_util_Arrays_343 {K : Fr} {cells slots : Nat} {σ : Mem} {cc : ByteArray} {nL pc fr lo mc ms : Nat} {ret : Option FieldType} {Qm : Option Value → Mem → Prop} {E : String → Mem → Prop} {lv : List (Option Value)} {st : List Value} (B : Bd K cc "java/util/Arrays" nL ret fr lo mc ms Qm E)   {a1 : Int32} {a2 : Int32} {Q : Mem → Prop} (hM : MetG (fL K) (fX K) yJ7_checkLength_df160 cJ7_checkLength_df160 2 none 0 0 0 0 [.int a1, .int a2] σ (RV Q) E) (hfr : 1 ≤ fr) (hlo : 21 ≤ lo) (hst : (st.map fun v => v.category).sum ≤ 8) (hc : cells ≤ mc) (hs : slots ≤ ms) (hdg : decode cc pc = .ok (.invokestatic 343, 3)) {np : Nat} (hp : pc + 3 = np) (kk : ∀ (τ : Mem), Q τ → Go K cells slots τ np lv st) : Go K cells slots σ pc lv (.int a2 :: .int a1 :: st) := g_callS B (n := 2) hM b_294 b_292 b_293 b_56 (by decide +kernel) rfl hfr hlo hst hdg hc hs (fun _ _ q => q) hp (fun r τ ⟨e, q⟩ => by subst e; exact kk τ q)
theorem gc_java_lang_String_1047 {K : Fr} {cells slots : Nat} {σ : Mem} {cc : ByteArray} {nL pc fr lo mc ms : Nat} {ret : Option FieldType} {Qm : Option Value → Mem → Prop} {E : String → Mem → Prop} {lv : List (Option Value)} {st : List Value} (B : Bd K cc "java/lang/String" nL ret fr lo mc ms Qm E) (k : Nat) (hk : k < oCnt (fX K) 13)  {Q : Int32 → Mem → Prop} (hM : MetG (fL K) (fX K) yJ5_isLatin1_aae02 cJ5_isLatin1_aae02 1 (some .boolean) 0 0 0 0 [.ref (xad (fX K) 13 k)] σ (RI Q) E) (hfr : 1 ≤ fr) (hlo : 20 ≤ lo) (hst : (st.map fun v => v.category).sum ≤ 8) (hc : cells ≤ mc) (hs : slots ≤ ms) (hdg : decode cc pc = .ok (.invokevirtual 1047, 3)) {np : Nat} (hp : pc + 3 = np) (kk : ∀ (r : Int32) (τ : Mem), Q r τ → Go K cells slots τ np lv (.int r :: st)) : Go K cells slots σ pc lv (.ref (xad (fX K) 13 k) :: st) := g_callU B k hk hM b_164 b_285 b_162 b_161 b_163 b_37 rfl (n := 0) (by decide +kernel) rfl hfr hlo hst hdg hc hs (fun _ _ q => q) hp (fun r τ ⟨i, e, q⟩ => by subst e; exact kk i τ q)
def wJ7_checkLength_df160  (a1 : Int32) (a2 : Int32) (s0 : Mem) (Q : Mem → Prop) (E : String → Mem → Prop) : Prop := ((a1 ≤ a2 → Q s0) ∧ (¬ a1 ≤ a2 → False))
set_option maxRecDepth 20000 in
set_option maxHeartbeats 4000000 in
theorem oJ7_checkLength_df160 {l : Launch} {x : Ctx} (hl : l.stackTraces = false)   (a1 : Int32) (a2 : Int32)  (s0 : Mem) (Q : Mem → Prop) (E : String → Mem → Prop) (h : wJ7_checkLength_df160  a1 a2 s0 Q E) : MetG l x yJ7_checkLength_df160 cJ7_checkLength_df160 2 none 0 0 0 0 [.int a1, .int a2] s0 (RV Q) E := by
  refine MetG.of hl (by decide) (Nat.le_of_ble_eq_true rfl) [some (.int a1), some (.int a2)] rfl (fun K B hx _ => ?_)
  subst hx
  unfold wJ7_checkLength_df160 at h
  refine g_iload_n (np := 1) B.1 dJ7_checkLength_df160_0 rfl rfl ?_
  refine g_iload_n (np := 2) B.1 dJ7_checkLength_df160_1 rfl rfl ?_
  refine g_icmp_ge (np := 5) (tgt := 37) B.1 dJ7_checkLength_df160_2 (by decide) rfl (fun q => ?_) (fun q => ?_)
  · replace h := h.1 q
    exact g_vret B rfl (Nat.le_of_ble_eq_true rfl) (Nat.le_of_ble_eq_true rfl) dJ7_checkLength_df160_37 ⟨rfl, h⟩
  · replace h := h.2 q
    exact h.elim

/-! A TEXT OUT OF A BUILDER: copyOfRange, the text's constructors, toString -/
/-- a contract with an end of its own -/
theorem MetC.of {l : Launch} {x : Ctx} {y : MethodName} {cc : ByteArray} {maxL : Nat} {ret : Option FieldType} {fr lo mc ms : Nat} {As : List Value} {σ : Mem} {QN9 : Array Value → State → Outcome → State → Prop} (hl : l.stackTraces = false) (hy : plainName y.cls = true) (hn : (lg_sl As).length ≤ maxL) (lv : List (Option Value)) (hlv : lvl lv = lv_args 0 As)
    (body : ∀ K : Fr, Bd K cc y.cls maxL ret fr lo mc ms (fun _ _ => False) (fun _ _ => False) → fQ K = vx_MQ (fB K) QN9 (fun _ _ _ => False) (fA K) (fS K) mc ms (XA (fX K)) → (fMe K).name = y.name → fX K = x → fL K = l → fA K = As.toArray → Go K 0 0 σ 0 lv []) : Met l y (Cond.code y cc maxL ret :: lw_good) ({ frames := fr, cells := mc, slots := ms, locals := lo }) (va_Pc As (Wd x σ)) QN9 mc ms (XA x) := by
  refine vx_met (vx_ofW (cc := cc) (maxL := maxL) (ret := ret) hy rfl ?_)
  intro p e s m args below meth c s₁ B hml hex hv
  obtain ⟨rfl, hC, hD, hK, hS, hb⟩ := hv
  have hts := atoms_spec (ws := Cond.code y cc maxL ret :: lw_good) B.pre
  have K1 := body (p, l, e, (headSpec (Cond.code y cc maxL ret :: lw_good) ({ frames := fr, cells := mc, slots := ms, locals := lo } : Room)).room, s, m, As.toArray, below, meth, c, x, maxL, vx_MQ below QN9 (fun _ _ _ => False) As.toArray s mc ms (XA x))
    ⟨⟨B.exec, B.bytes, hml, findClass_of_methodNamed B.named, fun w hw => hts w (List.mem_cons_of_mem _ hw), hK, hS, hb, B.notSynchronized, hl, rfl⟩, rfl, B.returns, ⟨_, _, rfl, fun v σ' t hq => absurd hq id, fun E σ' t hq => absurd hq id⟩, Or.inl hex⟩ rfl (name_of_methodNamed B.named B.method).1 rfl rfl rfl
  rw [lg_entry_eq]
  exact K1 s.heap [] _ hC hD va_S.rf ((lv_entry As hn).1 |> fun _ => Lh.of (lv_entry As hn) hlv)
theorem oJ5_getValue {l : Launch} {x : Ctx} (hl : l.stackTraces = false) (k : Nat) (hk : k < oCnt x 13) (s0 : Mem) : MetG l x yJ5_getValue_6d5f1 cJ5_getValue_6d5f1 1 (some (.array .byte)) 0 0 0 0 [.ref (xad x 13 k)] s0 (fun r τ => r = some (.ref (s0.2.1 k)) ∧ τ = s0) (fun _ _ => False) := by
  refine MetG.of hl (by decide) (Nat.le_of_ble_eq_true rfl) [some (.ref (xad x 13 k))] rfl (fun K B hx _ => ?_)
  subst hx
  refine g_aload_n (np := 1) B.1 dJ5_getValue_6d5f1_0 rfl rfl ?_
  refine gf_java_lang_AbstractStringBuilder_15_13 (np := 4) B.1 k hk dJ5_getValue_6d5f1_1 rfl ?_
  exact g_aret B rfl (Or.inr ⟨_, rfl⟩) (Or.inr ⟨_, rfl⟩) (Nat.le_refl _) (Nat.le_refl _) dJ5_getValue_6d5f1_4 ⟨rfl, rfl⟩
/-- a new row of bytes that holds the first n of a builder -/
def QC (x : Ctx) (σ : Mem) (k n : Nat) : Array Value → State → Outcome → State → Prop := fun _ st o t => (∃ (b : Nat) (g : Nat → Int32), o = .returned (some (.ref b)) ∧ (∀ j : Nat, j < n → g j = rd σ 16 k j) ∧ Cells x σ t.heap ∧ Dis x σ ∧ ((∀ f' k', k' < oCnt x f' → adr x σ f' k' ≠ b) ∧ xb x ≤ b) ∧ va_at (xD x) vwCl (b, .inl (xct x 3, n, .inl g)) t.heap) ∧ va_F (XA x) st t
/-- the world beside one more cell -/
theorem ws_push {x : Ctx} {σ : Mem} {H : Heap} {b : Nat} {e : va_E} (hP : va_P (xD x) vwCl (WS x σ ++ [(b, e)]) H) (hD : va_D (XA x) (WS x σ ++ [(b, e)])) : Cells x σ H ∧ ((∀ f' k', k' < oCnt x f' → adr x σ f' k' ≠ b) ∧ xb x ≤ b) ∧ va_at (xD x) vwCl (b, e) H := by
  have hw : (WS x σ ++ [(b, e)])[(WS x σ).length]? = some (b, e) := by
    rw [List.getElem?_append_right (Nat.le_refl _), Nat.sub_self]
    rfl
  refine ⟨fun f k hk => ?_, ⟨fun f' k' hk' e9 => ?_, hD.2 _ _ hw⟩, hP _ _ hw⟩
  · obtain ⟨j, hj⟩ := ws_at x σ hk
    exact hP j _ (by rw [List.getElem?_append_left (List.getElem?_eq_some_iff.mp hj).1]; exact hj)
  · obtain ⟨j, hj⟩ := ws_at x σ hk'
    have hjl := (List.getElem?_eq_some_iff.mp hj).1
    have := hD.1 j (WS x σ).length _ _ (by rw [List.getElem?_append_left hjl]; exact hj) hw e9
    omega
set_option maxHeartbeats 4000000 in
theorem o_copyRB {l : Launch} {x : Ctx} (hl : l.stackTraces = false) {k : Nat} (hk : k < oCnt x 13) (σ : Mem) {n : Nat} (h1 : n ≤ σ.2.2.1 k) (h2 : σ.2.2.1 k ≤ 150) (hfit : ∀ j, j < σ.2.2.1 k → fits .byte (.int (rd σ 16 k j)) = true) :
    Met l yJ7_copyOfRangeByte_39247 (Cond.code yJ7_copyOfRangeByte_39247 cJ7_copyOfRangeByte_39247 5 (some (.array .byte)) :: lw_good) ({ frames := 2, cells := 1, slots := n, locals := 100 }) (va_Pc [.ref (σ.2.1 k), .int 0, .int (nI n)] (Wd x σ)) (QC x σ k n) 1 n (XA x) := by
  refine MetC.of hl (by decide) (Nat.le_of_ble_eq_true rfl) [some (.ref (σ.2.1 k)), some (.int 0), some (.int (nI n)), none, none] rfl (fun K B eQ _ hx _ _ => ?_)
  subst hx
  have F := B.1
  have hR : fR K = ({ frames := 2, cells := 1, slots := n, locals := 100 } : Room) := B.2.1
  have hcl : (nI n).toNatClampNeg = n := nI_clamp (by omega)
  have e0 : ∀ m : Nat, nI m - 0 = nI m := fun m => Int32.sub_zero _
  refine g_iload_n (np := 1) F dJ7_copyOfRangeByte_39247_0 rfl rfl ?_
  refine g_iload_n (np := 2) F dJ7_copyOfRangeByte_39247_1 rfl rfl ?_
  refine gc_java_util_Arrays_343 (np := 5) B (oJ7_checkLength_df160 (l := fL K) B.1.tr 0 (nI n) σ (fun τ => τ = σ) _ ⟨fun _ => rfl, fun q => absurd (nI_pos' (by omega)) q⟩) (Nat.le_of_ble_eq_true rfl) (Nat.le_of_ble_eq_true rfl) (Nat.le_of_ble_eq_true rfl) (Nat.zero_le _) (Nat.zero_le _) dJ7_copyOfRangeByte_39247_2 rfl (fun τ hτ => ?_)
  rw [hτ]
  refine g_iload_n (np := 6) F dJ7_copyOfRangeByte_39247_5 rfl rfl ?_
  refine g_iload_n (np := 7) F dJ7_copyOfRangeByte_39247_6 rfl rfl ?_
  refine g_isub (np := 8) F dJ7_copyOfRangeByte_39247_7 rfl ?_
  rw [e0]
  refine g_istore_n (np := 9) (lv' := [some (.ref (σ.2.1 k)), some (.int 0), some (.int (nI n)), some (.int (nI n)), none]) F dJ7_copyOfRangeByte_39247_8 (by decide) rfl rfl rfl ?_
  refine g_iload_n (np := 10) F dJ7_copyOfRangeByte_39247_9 rfl rfl ?_
  intro H locs ls hC hD hS hL
  refine va_newa (atype := .byte) F.x F.b (F.w _ b_112) (ty := .byte) rfl F.k (ws_P hC) (ws_D hD) hS (fun z hz => Nat.le_trans F.h hz) (n := nI n) (N' := n) (a0 := (n, .inl (fun _ => 0))) (fun _ => rfl) (nI_pos (by omega)) hcl (by show n * 1 ≤ _; omega) (by rw [hR]; exact Nat.le_refl _) (by rw [hR]; exact Nat.le_of_eq (Nat.zero_add n)) dJ7_copyOfRangeByte_39247_10 (fun b cA H1 hK1 hP1 hD1 hS1 => ?_)
  have hcA : cA = xct (fX K) 3 := by
    have a1 : va_RA (fS K) cA .byte := (hK1.2 6 (cA, .byte) rfl).2
    have a2 : va_RA (fS K) (xct (fX K) 3) .byte := (hK1.2 3 (xct (fX K) 3, .byte) rfl).2
    exact Option.some.inj (a1.symm.trans a2)
  subst hcA
  refine lv_astore F.x F.b dJ7_copyOfRangeByte_39247_12 hL.has (by rw [F.n]; decide) rfl (fun ls2 hL2 => ?_)
  have L2 : Lh ls2 (fN K) [some (.ref (σ.2.1 k)), some (.int 0), some (.int (nI n)), some (.int (nI n)), some (.ref b)] := Lh.put (lv := [some (.ref (σ.2.1 k)), some (.int 0), some (.int (nI n)), some (.int (nI n)), none]) rfl rfl hL2
  obtain ⟨q0, hq0⟩ := ws_at (fX K) σ (f := 16) (k := k) hk
  have hq0lt := (List.getElem?_eq_some_iff.mp hq0).1
  have ha0 : (WS (fX K) σ ++ [(b, .inl (xct (fX K) 3, (n, .inl (fun _ => 0))))])[q0]? = some (σ.2.1 k, .inl (xct (fX K) 3, σ.2.2.1 k, .inl (fun j => rd σ 16 k j))) := by
    rw [List.getElem?_append_left hq0lt, hq0, el_16 (fX K) σ σ k rfl]
    rfl
  have ha1 : (WS (fX K) σ ++ [(b, .inl (xct (fX K) 3, (n, .inl (fun _ => 0))))])[(WS (fX K) σ).length]? = some (b, .inl (xct (fX K) 3, n, .inl (fun _ => 0))) := by
    rw [List.getElem?_append_right (Nat.le_refl _), Nat.sub_self]
    rfl
  have hml2 : (fC K).maxLocals = ls2.size := F.ml.trans L2.1.symm
  refine lv_aload_n F.x F.b dJ7_copyOfRangeByte_39247_14 rfl (L2.2.2 0 _ rfl) ?_
  refine lv_iload_n F.x F.b dJ7_copyOfRangeByte_39247_15 rfl (L2.2.2 1 _ rfl) ?_
  refine lv_aload F.x F.b dJ7_copyOfRangeByte_39247_16 (L2.2.2 4 _ rfl) ?_
  refine lv_iconst (v := 0) F.x F.b dJ7_copyOfRangeByte_39247_18 (by decide) ?_
  refine lv_aload_n F.x F.b dJ7_copyOfRangeByte_39247_19 rfl (L2.2.2 0 _ rfl) ?_
  refine va_alen F.x F.b hK1 hP1 q0 3 ha0 rfl (v := nI (σ.2.2.1 k)) rfl dJ7_copyOfRangeByte_39247_20 ?_
  refine lv_iload_n F.x F.b dJ7_copyOfRangeByte_39247_21 rfl (L2.2.2 1 _ rfl) ?_
  refine lv_isub F.x F.b dJ7_copyOfRangeByte_39247_22 ?_
  rw [e0]
  refine lv_iload_n F.x F.b dJ7_copyOfRangeByte_39247_23 rfl (L2.2.2 3 _ rfl) ?_
  refine va_mmin F.x F.b hml2 F.o (F.w _ b_154) (F.w _ b_155) (F.w _ b_30) (F.w _ b_156) (by rw [hR]; exact Nat.le_of_ble_eq_true rfl) (by rw [hR]; exact Nat.le_of_ble_eq_true rfl) (by rw [hR]; exact Nat.le_refl _) (by rw [hR]; exact Nat.le_of_eq (Nat.zero_add n)) dJ7_copyOfRangeByte_39247_24 ?_
  have emin : (if nI n < nI (σ.2.2.1 k) then nI n else nI (σ.2.2.1 k)) = nI n := by
    by_cases c : n < σ.2.2.1 k
    · rw [if_pos (nI_lt c (by omega))]
    · rw [if_neg (nI_nlt (by omega) (by omega)), show σ.2.2.1 k = n by omega]
  rw [emin]
  refine va_copyi F.x F.b hml2 F.o (F.w _ b_157) (F.w _ b_159) (F.w _ b_158) (F.w _ b_53) hK1 hP1 hD1 hS1 q0 (WS (fX K) σ).length 3 3 ha0 ha1 rfl rfl rfl (by decide) (by decide) (nI_pos (by omega)) (by rw [hcl]; show 0 + n ≤ _; omega) (by rw [hcl]; show 0 + n ≤ _; omega) (fun i hi => by
    rw [hcl] at hi
    show fits .byte (.int (rd σ 16 k (0 + i))) = true
    rw [Nat.zero_add]
    exact hfit i (by omega)) (by rw [hR]; exact Nat.le_of_ble_eq_true rfl) (by rw [hR]; show (0 : Nat) + (nativeFrameWords "java/lang/System" "arraycopy" 5 + 11) ≤ 100; exact Nat.le_of_ble_eq_true (by decide +kernel)) dJ7_copyOfRangeByte_39247_27 (fun H2 locs2 hP2 hD2 hS2 => ?_)
  refine lv_aload F.x F.b dJ7_copyOfRangeByte_39247_30 (L2.2.2 4 _ rfl) ?_
  rw [eQ]
  have hset : ∀ e : va_E, (WS (fX K) σ ++ [((b, .inl (xct (fX K) 3, (n, .inl (fun _ => 0)))) : Nat × va_E)]).set (WS (fX K) σ).length (b, e) = WS (fX K) σ ++ [(b, e)] := by
    intro e
    rw [List.set_append_right _ _ (Nat.le_refl _), Nat.sub_self]
    rfl
  rw [hset] at hP2 hD2
  refine W.widen (Nat.le_refl _) (Nat.le_of_eq (Nat.zero_add n)) (vx_ret (W.aret F.x F.b (B.2.2.1.trans rfl) (Or.inr ⟨_, rfl⟩) (Or.inr ⟨_, rfl⟩) (fun t ht hW => ?_) hS2.2.2 dJ7_copyOfRangeByte_39247_32 F.lk))
  have hw := ws_push hP2 hD2
  refine ⟨⟨b, _, rfl, fun j hj => ?_, by rw [ht]; exact hw.1, hD, hw.2.1, by rw [ht]; have := hw.2.2; rw [hcl] at this; exact this⟩, hS2.F ht⟩
  show va_cpy (fun j => rd σ 16 k j) (fun _ => 0) 0 0 n j = _
  unfold va_cpy
  rw [if_pos ⟨Nat.zero_le _, by omega⟩]
  show rd σ 16 k (0 + (j - 0)) = _
  rw [Nat.zero_add, Nat.sub_zero]
set_option maxHeartbeats 4000000 in
theorem o_copyR {l : Launch} {x : Ctx} (hl : l.stackTraces = false) {k : Nat} (hk : k < oCnt x 13) (σ : Mem) {n : Nat} (h1 : n ≤ σ.2.2.1 k) (h2 : σ.2.2.1 k ≤ 150) (hfit : ∀ j, j < σ.2.2.1 k → fits .byte (.int (rd σ 16 k j)) = true) :
    Met l yJ7_copyOfRange_39247 (Cond.code yJ7_copyOfRange_39247 cJ7_copyOfRange_39247 3 (some (.array .byte)) :: lw_good) ({ frames := 3, cells := 1, slots := n, locals := 140 }) (va_Pc [.ref (σ.2.1 k), .int 0, .int (nI n)] (Wd x σ)) (QC x σ k n) 1 n (XA x) := by
  refine MetC.of hl (by decide) (Nat.le_of_ble_eq_true rfl) [some (.ref (σ.2.1 k)), some (.int 0), some (.int (nI n))] rfl (fun K B eQ _ hx _ _ => ?_)
  subst hx
  have F := B.1
  have hR : fR K = ({ frames := 3, cells := 1, slots := n, locals := 140 } : Room) := B.2.1
  refine g_iload_n (np := 1) F dJ7_copyOfRange_39247_0 rfl rfl ?_
  refine g_if_ne (np := 4) (tgt := 10) F dJ7_copyOfRange_39247_1 (by decide) rfl (fun q => absurd rfl q) (fun _ => ?_)
  refine g_iload_n (np := 5) F dJ7_copyOfRange_39247_4 rfl rfl ?_
  refine g_aload_n (np := 6) F dJ7_copyOfRange_39247_5 rfl rfl ?_
  refine g_alenB (np := 7) F k hk dJ7_copyOfRange_39247_6 rfl ?_
  refine g_icmp_eq (np := 10) (tgt := 17) F dJ7_copyOfRange_39247_7 (by decide) rfl (fun q => ?_) (fun _ => ?_)
  · have hn : n = σ.2.2.1 k := (nI_eq (by omega) (by omega)).mp q
    refine g_aload_n (np := 18) F dJ7_copyOfRange_39247_17 rfl rfl ?_
    intro H locs ls hC hD hS hL
    obtain ⟨q0, hq0⟩ := ws_at (fX K) σ (f := 16) (k := k) hk
    have ha0 : (WS (fX K) σ)[q0]? = some (σ.2.1 k, .inl (xct (fX K) 3, σ.2.2.1 k, .inl (fun j => rd σ 16 k j))) := by
      rw [hq0, el_16 (fX K) σ σ k rfl]
      rfl
    have hnm : (fS K).vm.findClass "[B" = some (xct (fX K) 3) := (F.k.2 3 (xct (fX K) 3, .byte) rfl).2
    have hml2 : (fC K).maxLocals = ls.size := F.ml.trans hL.1.symm
    refine va_clone F.x F.b hml2 F.o (F.w _ b_147) (F.w _ b_148) (F.w _ b_149) (F.w _ b_150) (F.w _ b_151) (F.s.2.2.2.2.1 _ t_152 rfl) F.k (ws_P hC) (ws_D hD) hS (fun z hz => Nat.le_trans F.h hz) q0 3 ha0 rfl hnm (fun i v hv => ?_) (by rw [hR]; exact Nat.le_of_ble_eq_true rfl) (by rw [hR]; exact Nat.le_of_ble_eq_true rfl) (by rw [hR]; exact Nat.le_refl _) (by rw [hR]; show 0 + σ.2.2.1 k ≤ n; omega) dJ7_copyOfRange_39247_18 (fun b H1 hK1 hP1 hD1 hS1 => ?_)
    · rw [vp_cell_i] at hv
      have hsz : i < σ.2.2.1 k := by
        have := (Array.getElem?_eq_some_iff.mp hv).1
        rw [arrV_size] at this
        exact this
      rw [arrV_read _ _ hsz] at hv
      cases hv
      exact hfit i hsz
    have ha1 : (WS (fX K) σ ++ [(b, .inl (xct (fX K) 3, (σ.2.2.1 k, .inl (fun j => rd σ 16 k j))))])[(WS (fX K) σ).length]? = some (b, .inl (xct (fX K) 3, σ.2.2.1 k, .inl (fun j => rd σ 16 k j))) := by
      rw [List.getElem?_append_right (Nat.le_refl _), Nat.sub_self]
      rfl
    refine va_castA F.x F.b F.o (F.w _ b_153) hP1 (WS (fX K) σ).length ha1 hnm dJ7_copyOfRange_39247_21 ?_
    rw [eQ]
    refine W.widen (Nat.le_refl _) (by show 0 + σ.2.2.1 k ≤ n; omega) (vx_ret (W.aret F.x F.b (B.2.2.1.trans rfl) (Or.inr ⟨_, rfl⟩) (Or.inr ⟨_, rfl⟩) (fun t ht hW => ?_) hS1.2.2 dJ7_copyOfRange_39247_24 F.lk))
    have hw := ws_push hP1 hD1
    rw [← hn] at hw
    exact ⟨⟨b, fun j => rd σ 16 k j, rfl, fun j _ => rfl, by rw [ht]; exact hw.1, hD, hw.2.1, by rw [ht]; exact hw.2.2⟩, hS1.F ht⟩
  · refine g_aload_n (np := 11) F dJ7_copyOfRange_39247_10 rfl rfl ?_
    refine g_iload_n (np := 12) F dJ7_copyOfRange_39247_11 rfl rfl ?_
    refine g_iload_n (np := 13) F dJ7_copyOfRange_39247_12 rfl rfl ?_
    intro H locs ls hC hD hS hL
    have hfx : CallFix (fP K) (fM K) (fC K) cJ7_copyOfRange_39247 3 (fS K) (fA K) lw_good "java/util/Arrays" := ⟨F.x, F.b, F.ml.trans F.n, F.o, F.w⟩
    have hG : GoodIn lw_good (Cond.code yJ7_copyOfRangeByte_39247 cJ7_copyOfRangeByte_39247 5 (some (.array .byte)) :: lw_good) := by
      intro w hw
      have h2 : w ∈ lw_good := by
        rcases List.mem_cons.mp hw with e | e
        · rw [e]; exact b_291
        · exact e
      exact ⟨h2, good_of_word (List.mem_filter.mp h2).2⟩
    have run : va_Run (fP K) (fL K) (fE K) (fR K) (fS K) (fM K) (fA K) (fB K) (fMe K) (fC K) H locs 0 0 1 n (F0 (fM K) 13 ls [.int (nI n), .int 0, .ref (σ.2.1 k)]) [] (QC (fX K) σ k n ([.ref (σ.2.1 k), .int 0, .int (nI n)] : List Value).toArray) (XA (fX K)) :=
      va_runS (g := F0 (fM K) 13 ls [.int (nI n), .int 0, .ref (σ.2.1 k)]) (rest := []) (cells := 0) (slots := 0) (H := H) (locs := locs) hfx (o_copyRB (l := fL K) (x := fX K) B.1.tr hk σ h1 h2 hfit) ⟨callB_of 3 F.w hG rfl rfl rfl (F.w _ b_56) (F.w _ b_289) (by decide +kernel) ⟨by rw [hR]; exact Nat.le_of_ble_eq_true rfl, by rw [hR]; exact Nat.le_of_ble_eq_true rfl⟩, F.w _ b_290⟩
        ⟨fun a U g mk q => ⟨q.1, q.2.moved (State.WarmedH.refl U) rfl⟩, fun U hU hW => ⟨rfl, bd_wd F hC hD hS hU hW⟩⟩ rfl rfl (hL.1.trans F.n) rfl (lv_room (Nat.le_of_ble_eq_true rfl)) dJ7_copyOfRange_39247_13 (by rw [hR]; exact ⟨Nat.le_refl _, Nat.le_of_eq (Nat.zero_add n)⟩)
    intro T hT X
    obtain ⟨v, st₀, t, T', L, h0, X', hfl, e1, e2, ⟨⟨b, g, hv, hg, hC1, hD1, hbb, hat⟩, hz⟩, hgo⟩ := run T hT X
    cases hv
    have hS' : va_S (XA (fX K)) (fS K).heap T'.heap (locs ++ L) := by
      refine ⟨?_, ?_, ?_⟩
      · rw [e1]
        exact Nat.le_trans hS.1 (by have := hz.1; rw [h0] at this; exact this)
      · intro q h1 h2
        rw [e1]
        have h3 := hz.2 q (by rw [h0]; exact Nat.lt_of_lt_of_le h1 hS.1) h2
        rw [h3, h0]
        exact hS.2.1 q h1 h2
      · intro z hzz
        rcases List.mem_append.mp hzz with h | h
        · exact hS.2.2 z h
        · exact hfl z h
    have KK : W (fP K) (fL K) (fE K) (fR K) (fS K) (fM K) (fA K) (fB K) (fMe K) (fC K) T'.heap (locs ++ L) (0 + 1) (0 + n) (fQ K) (F0 (fM K) 16 ls [.ref b]) := by
      rw [eQ]
      exact W.widen (Nat.le_refl _) (Nat.le_of_eq (Nat.zero_add n)) (vx_ret (W.aret F.x F.b (B.2.2.1.trans rfl) (Or.inr ⟨_, rfl⟩) (Or.inr ⟨_, rfl⟩) (fun t9 ht hW => ⟨⟨b, g, rfl, hg, by rw [ht, e1]; exact hC1, hD1, hbb, by rw [ht, e1]; exact hat⟩, hS'.F ht⟩) hS'.2.2 dJ7_copyOfRange_39247_16 F.lk))
    obtain ⟨t2, a1, b1⟩ := KK T' rfl X'
    exact ⟨t2, hgo t2 a1, b1⟩
