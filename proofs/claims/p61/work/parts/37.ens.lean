/-! THE BUILDER'S ROOM: Arrays.copyOf, ensureCapacityInternal -/
def grow (σ : Mem) (k b q : Nat) : Mem := (fun f' k' s' => if f' = 16 ∧ k' = k then (if s' < σ.2.2.1 k then σ.1 16 k s' else 0) else σ.1 f' k' s', (fun j => if j = k then b else σ.2.1 j), (fun j => if j = k then q else σ.2.2.1 j), σ.2.2.2)
def gcpy (σ : Mem) (k : Nat) : Nat → Int32 := va_cpy (rd σ 16 k) (fun _ => 0) 0 0 (σ.2.2.1 k)
def capN (c n : Nat) : Nat := c + (if n - c < c + 2 then c + 2 else n - c)
theorem rd_grow (σ : Mem) (k b q f' k' s' : Nat) : rd (grow σ k b q) f' k' s' = if f' = 16 ∧ k' = k then (if s' < σ.2.2.1 k then rd σ 16 k s' else 0) else rd σ f' k' s' := rfl
theorem capN_le {c n : Nat} (h1 : c ≤ 150) (h2 : n ≤ 150) : 0 < capN c n ∧ capN c n ≤ 302 ∧ (c < n → c < capN c n) := by
  unfold capN
  split <;> omega
def QB (x : Ctx) (σ : Mem) (k q : Nat) : Array Value → State → Outcome → State → Prop := fun _ st o t => (∃ b : Nat, o = .returned (some (.ref b)) ∧ Cells x σ t.heap ∧ Dis x σ ∧ ((∀ f' k', k' < oCnt x f' → adr x σ f' k' ≠ b) ∧ xb x ≤ b) ∧ va_at (xD x) vwCl (b, .inl (xct x 3, q, .inl (gcpy σ k))) t.heap) ∧ va_F (XA x) st t
set_option maxHeartbeats 4000000 in
theorem o_copyOf {l : Launch} {x : Ctx} (hl : l.stackTraces = false) {k : Nat} (hk : k < oCnt x 13) (σ : Mem) {q : Nat} (h1 : σ.2.2.1 k < q) (h2 : q ≤ 400) (hfit : ∀ j, j < σ.2.2.1 k → fits .byte (.int (rd σ 16 k j)) = true) :
    Met l yJ7_copyOf_9075b (Cond.code yJ7_copyOf_9075b cJ7_copyOf_9075b 3 (some (.array .byte)) :: lw_good) ({ frames := 1, cells := 1, slots := q, locals := 60 }) (va_Pc [.ref (σ.2.1 k), .int (nI q)] (Wd x σ)) (QB x σ k q) 1 q (XA x) := by
  refine Met.ofW (cc := cJ7_copyOf_9075b) (maxL := 3) (ret := some (.array .byte)) (by decide) rfl ?_
  intro p e s m args below meth c s₁ B hml hv
  obtain ⟨rfl, hC0, hD0, hK, hS0, hb⟩ := hv
  have hts := atoms_spec (ws := Cond.code yJ7_copyOf_9075b cJ7_copyOf_9075b 3 (some (.array .byte)) :: lw_good) B.pre
  have key : ∀ K : Fr, K = (p, l, e, (headSpec (Cond.code yJ7_copyOf_9075b cJ7_copyOf_9075b 3 (some (.array .byte)) :: lw_good) ({ frames := 1, cells := 1, slots := q, locals := 60 } : Room)).room, s, m, ([.ref (σ.2.1 k), .int (nI q)] : List Value).toArray, below, meth, c, x, 3, MQ below (QB x σ k q) ([.ref (σ.2.1 k), .int (nI q)] : List Value).toArray s 1 q (XA x)) →
      Go K 0 0 σ 0 [some (.ref (σ.2.1 k)), some (.int (nI q)), none] [] := by
    intro K hKe
    have F : Fx K cJ7_copyOf_9075b "java/util/Arrays" 3 := by
      subst hKe
      exact ⟨B.exec, B.bytes, hml, findClass_of_methodNamed B.named, fun w hw => hts w (List.mem_cons_of_mem _ hw), hK, hS0, hb, B.notSynchronized, hl, rfl⟩
    have hR : fR K = ({ frames := 1, cells := 1, slots := q, locals := 60 } : Room) := by subst hKe; rfl
    have hx : fX K = x := by subst hKe; rfl
    have hk : k < oCnt (fX K) 13 := by rw [hx]; exact hk
    have hQ : fQ K = MQ (fB K) (QB (fX K) σ k q) (fA K) (fS K) 1 q (XA (fX K)) := by subst hKe; rfl
    have hret : (fMe K).sig.returnType = some (.array .byte) := by subst hKe; exact B.returns
    clear hKe
    have hcl : (nI (σ.2.2.1 k)).toNatClampNeg = σ.2.2.1 k := nI_clamp (by omega)
    refine g_iload_n (np := 1) F dJ7_copyOf_9075b_0 rfl rfl ?_
    refine g_aload_n (np := 2) F dJ7_copyOf_9075b_1 rfl rfl ?_
    refine g_alenB (np := 3) F k hk dJ7_copyOf_9075b_2 rfl ?_
    refine g_icmp_ne (np := 6) (tgt := 14) F dJ7_copyOf_9075b_3 (by decide) rfl (fun _ => ?_) (fun h => absurd ((nI_eq (by omega) (by omega)).mp h) (by omega))
    refine g_iload_n (np := 15) F dJ7_copyOf_9075b_14 rfl rfl ?_
    intro H locs ls hC hD hS hL
    refine va_newa (atype := .byte) F.x F.b (F.w _ b_112) (ty := .byte) rfl F.k (ws_P hC) (ws_D hD) hS (fun z hz => Nat.le_trans F.h hz) (n := nI q) (N' := q) (a0 := (q, .inl (fun _ => 0))) (fun _ => rfl) (nI_pos (by omega)) (nI_clamp (by omega)) (by show q * 1 ≤ _; omega) (by rw [hR]; exact Nat.le_refl _) (by rw [hR]; exact Nat.le_of_eq (Nat.zero_add q)) dJ7_copyOf_9075b_15 (fun b cA H1 hK1 hP1 hD1 hS1 => ?_)
    have hcA : cA = xct (fX K) 3 := by
      have a1 : va_RA (fS K) cA .byte := (hK1.2 6 (cA, .byte) rfl).2
      have a2 : va_RA (fS K) (xct (fX K) 3) .byte := (hK1.2 3 (xct (fX K) 3, .byte) rfl).2
      exact Option.some.inj (a1.symm.trans a2)
    subst hcA
    refine lv_astore_n F.x F.b dJ7_copyOf_9075b_17 rfl hL.has (by rw [F.n]; decide) rfl (fun ls2 hL2 => ?_)
    have L2 : Lh ls2 (fN K) [some (.ref (σ.2.1 k)), some (.int (nI q)), some (.ref b)] := Lh.put (lv := [some (.ref (σ.2.1 k)), some (.int (nI q)), none]) rfl rfl hL2
    obtain ⟨q0, hq0⟩ := ws_at (fX K) σ (f := 16) (k := k) hk
    have hq0lt := (List.getElem?_eq_some_iff.mp hq0).1
    have ha0 : (WS (fX K) σ ++ [(b, .inl (xct (fX K) 3, (q, .inl (fun _ => 0))))])[q0]? = some (σ.2.1 k, .inl (xct (fX K) 3, σ.2.2.1 k, .inl (fun j => rd σ 16 k j))) := by
      rw [List.getElem?_append_left hq0lt, hq0, el_16 (fX K) σ σ k rfl]
      rfl
    have ha1 : (WS (fX K) σ ++ [(b, .inl (xct (fX K) 3, (q, .inl (fun _ => 0))))])[(WS (fX K) σ).length]? = some (b, .inl (xct (fX K) 3, q, .inl (fun _ => 0))) := by
      rw [List.getElem?_append_right (Nat.le_refl _), Nat.sub_self]
      rfl
    have hml2 : (fC K).maxLocals = ls2.size := F.ml.trans L2.1.symm
    refine lv_aload_n F.x F.b dJ7_copyOf_9075b_18 rfl (L2.2.2 0 _ rfl) ?_
    refine lv_iconst (v := 0) F.x F.b dJ7_copyOf_9075b_19 (by decide) ?_
    refine lv_aload_n F.x F.b dJ7_copyOf_9075b_20 rfl (L2.2.2 2 _ rfl) ?_
    refine lv_iconst (v := 0) F.x F.b dJ7_copyOf_9075b_21 (by decide) ?_
    refine lv_aload_n F.x F.b dJ7_copyOf_9075b_22 rfl (L2.2.2 0 _ rfl) ?_
    refine va_alen F.x F.b hK1 hP1 q0 3 ha0 rfl (v := nI (σ.2.2.1 k)) rfl dJ7_copyOf_9075b_23 ?_
    refine lv_iload_n F.x F.b dJ7_copyOf_9075b_24 rfl (L2.2.2 1 _ rfl) ?_
    refine va_mmin F.x F.b hml2 F.o (F.w _ b_154) (F.w _ b_155) (F.w _ b_30) (F.w _ b_156) (by rw [hR]; exact Nat.le_refl _) (by rw [hR]; exact Nat.le_of_ble_eq_true rfl) (by rw [hR]; exact Nat.le_refl _) (by rw [hR]; exact Nat.le_of_eq (Nat.zero_add q)) dJ7_copyOf_9075b_25 ?_
    rw [if_neg (nI_nlt (Nat.le_of_lt h1) (by omega))]
    refine va_copyi F.x F.b hml2 F.o (F.w _ b_157) (F.w _ b_159) (F.w _ b_158) (F.w _ b_53) hK1 hP1 hD1 hS1 q0 (WS (fX K) σ).length 3 3 ha0 ha1 rfl rfl rfl (by decide) (by decide) (nI_pos (by omega)) (by rw [hcl]; exact Nat.le_of_eq (Nat.zero_add _)) (by rw [hcl]; show 0 + _ ≤ _; omega) (fun i hi => by
      rw [hcl] at hi
      show fits .byte (.int (rd σ 16 k (0 + i))) = true
      rw [Nat.zero_add]
      exact hfit i hi) (by rw [hR]; exact Nat.le_refl _) (by rw [hR]; show (0 : Nat) + (nativeFrameWords "java/lang/System" "arraycopy" 5 + 11) ≤ 60; exact Nat.le_of_ble_eq_true (by decide +kernel)) dJ7_copyOf_9075b_28 (fun H2 locs2 hP2 hD2 hS2 => ?_)
    refine lv_aload_n F.x F.b dJ7_copyOf_9075b_31 rfl (L2.2.2 2 _ rfl) ?_
    rw [hQ]
    refine W.widen (Nat.le_refl _) (Nat.le_of_eq (Nat.zero_add q)) (W.aret F.x F.b hret (Or.inr ⟨_, rfl⟩) (Or.inr ⟨_, rfl⟩) (fun t ht hW => ⟨⟨b, rfl, ?_, hD, ?_, ?_⟩, hS2.F ht⟩) hS2.2.2 dJ7_copyOf_9075b_32 F.lk)
    · intro f' k' hk'
      obtain ⟨j, hj⟩ := ws_at (fX K) σ (f := f') (k := k') hk'
      have hjl := (List.getElem?_eq_some_iff.mp hj).1
      rw [ht]
      refine hP2 j _ ?_
      rw [List.getElem?_set_ne (by omega), List.getElem?_append_left hjl]
      exact hj
    · refine ⟨fun f' k' hk' e9 => ?_, hD1.2 _ _ ha1⟩
      obtain ⟨j, hj⟩ := ws_at (fX K) σ (f := f') (k := k') hk'
      have hjl := (List.getElem?_eq_some_iff.mp hj).1
      have := hD1.1 j (WS (fX K) σ).length _ _ (by rw [List.getElem?_append_left hjl]; exact hj) ha1 e9
      omega
    · rw [ht]
      have := hP2 (WS (fX K) σ).length _ (List.getElem?_set_self (List.getElem?_eq_some_iff.mp ha1).1)
      rw [hcl] at this
      exact this
  rw [lg_entry_eq]
  exact key _ rfl s.heap [] _ hC0 hD0 va_S.rf (Lh.of (lv_entry _ (Nat.le_of_ble_eq_true rfl)) rfl)

theorem newCap_ok {k n : Nat} {s0 : Mem} {E : String → Mem → Prop} (hc : rd s0 13 k 1 = 0) (h1 : s0.2.2.1 k ≤ 150) (h2 : n ≤ 150) (h3 : s0.2.2.1 k < n) : wJ5_newCapacity_0f7a4 k (nI n) s0 (fun r τ => r = nI (capN (s0.2.2.1 k) n) ∧ τ = s0) E := by
  unfold wJ5_newCapacity_0f7a4 wJ8_newLength_cabcc
  rw [hc]
  intro v2 e2 v3 e3 v4 e4
  rw [sb_shl0] at e3
  subst e3
  subst e2
  rw [pk_sub (by omega)] at e4
  subst e4
  have e : nI (s0.2.2.1 k) + (2 <<< ((0 : Int32) &&& 31)) = nI (s0.2.2.1 k + 2) := by
    rw [sb_shl0]
    exact nI_add _ 2
  rw [e]
  intro v5 e5
  have e6 : v5 = nI (capN (s0.2.2.1 k) n) := by
    rw [e5]
    unfold capN
    by_cases h : n - s0.2.2.1 k < s0.2.2.1 k + 2
    · rw [if_pos (nI_lt h (by omega)), if_pos h]
      exact nI_add _ _
    · rw [if_neg (nI_nlt (by omega) (by omega)), if_neg h]
      exact nI_add _ _
  obtain ⟨h7, h8, -⟩ := capN_le h1 h2
  rw [e6]
  refine ⟨fun h => absurd h (nI_nle h7 (by omega)), fun _ => ⟨fun h => absurd h (show ¬ nI 2147483639 < nI _ from nI_nlt (by omega) (by decide)), fun _ => ⟨rfl, fun _ => ⟨?_, rfl⟩, fun h => ?_⟩⟩⟩
  · rw [sb_shr0]
  · have := (nI_eq (by omega) (by decide)).mp (show nI _ = nI 2147483647 from h)
    omega
theorem el_grow_ne {x : Ctx} {σ : Mem} {k b q f' k' : Nat} (h1 : f' = 13 → k' ≠ k) (h2 : f' = 16 → k' ≠ k) : el x (grow σ k b q) f' k' = el x σ f' k' := by
  have hr : ∀ s, rd (grow σ k b q) f' k' s = rd σ f' k' s := fun s => by
    rw [rd_grow, if_neg (fun e => h2 e.1 e.2)]
  unfold el
  split
  all_goals (try simp only [hr])
  all_goals first
    | rfl
    | (show (Sum.inr (1, [Value.ref (if k' = k then b else σ.2.1 k'), _, _, _]) : va_E) = _; rw [if_neg (h1 rfl)])
    | (show (Sum.inl (xct x 3, (if k' = k then q else σ.2.2.1 k'), _) : va_E) = _; rw [if_neg (h2 rfl)])
def wJ5_ensureCapacityInternal_d00df (k : Nat) (a1 : Int32) (s0 : Mem) (Q : Mem → Prop) (E : String → Mem → Prop) : Prop := rd s0 13 k 1 = 0 ∧ s0.2.2.1 k ≤ 150 ∧ (∀ j, j < s0.2.2.1 k → fits .byte (.int (rd s0 16 k j)) = true) ∧ ∃ n : Nat, a1 = nI n ∧ n ≤ 150 ∧ (n ≤ s0.2.2.1 k → Q s0) ∧ (s0.2.2.1 k < n → ∀ b, Q (grow s0 k b (capN (s0.2.2.1 k) n)))
set_option maxHeartbeats 4000000 in
theorem oJ5_ensureCapacityInternal_d00df {l : Launch} {x : Ctx} (hl : l.stackTraces = false) (k : Nat) (hk : k < oCnt x 13) (a1 : Int32) (s0 : Mem) (Q : Mem → Prop) (E : String → Mem → Prop) (h : wJ5_ensureCapacityInternal_d00df k a1 s0 Q E) : MetG l x yJ5_ensureCapacityInternal_d00df cJ5_ensureCapacityInternal_d00df 3 none 6 200 1 302 [.ref (xad x 13 k), .int a1] s0 (RV Q) E := by
  obtain ⟨hc, h1, hfit, n, rfl, h2, h3, h4⟩ := h
  refine MetG.of hl (by decide) (Nat.le_of_ble_eq_true rfl) [some (.ref (xad x 13 k)), some (.int (nI n)), none] rfl (fun K B hx hl2 => ?_)
  subst hx
  refine g_aload_n (np := 1) B.1 dJ5_ensureCapacityInternal_d00df_0 rfl rfl ?_
  refine gf_java_lang_AbstractStringBuilder_15_13 (np := 4) B.1 k hk dJ5_ensureCapacityInternal_d00df_1 rfl ?_
  refine g_alenB (np := 5) B.1 k hk dJ5_ensureCapacityInternal_d00df_4 rfl ?_
  refine g_aload_n (np := 6) B.1 dJ5_ensureCapacityInternal_d00df_5 rfl rfl ?_
  refine gf_java_lang_AbstractStringBuilder_22_13 (np := 9) B.1 k hk dJ5_ensureCapacityInternal_d00df_6 rfl ?_
  refine g_ishr (np := 10) B.1 dJ5_ensureCapacityInternal_d00df_9 rfl ?_
  rw [hc, sb_shr0]
  refine g_istore_n (np := 11) (lv' := [some (.ref (xad (fX K) 13 k)), some (.int (nI n)), some (.int (nI (s0.2.2.1 k)))]) B.1 dJ5_ensureCapacityInternal_d00df_10 (by decide) rfl rfl rfl ?_
  refine g_iload_n (np := 12) B.1 dJ5_ensureCapacityInternal_d00df_11 rfl rfl ?_
  refine g_iload_n (np := 13) B.1 dJ5_ensureCapacityInternal_d00df_12 rfl rfl ?_
  refine g_isub (np := 14) B.1 dJ5_ensureCapacityInternal_d00df_13 rfl ?_
  have e1 : (nI n - nI (s0.2.2.1 k)).toInt = (n : Int) - s0.2.2.1 k := pk_sub_toInt (by omega) (by omega)
  refine g_if_le (np := 17) (tgt := 38) B.1 dJ5_ensureCapacityInternal_d00df_14 (by decide) rfl (fun q => ?_) (fun q => ?_)
  · rw [Int32.le_iff_toInt_le, e1, Int32.toInt_zero] at q
    exact g_vret B rfl (Nat.zero_le _) (Nat.zero_le _) dJ5_ensureCapacityInternal_d00df_38 ⟨rfl, h3 (by omega)⟩
  rw [Int32.le_iff_toInt_le, e1, Int32.toInt_zero] at q
  have hlt : s0.2.2.1 k < n := by omega
  obtain ⟨c1, c2, c3⟩ := capN_le (c := s0.2.2.1 k) h1 h2
  have c3 := c3 hlt
  refine g_aload_n (np := 18) B.1 dJ5_ensureCapacityInternal_d00df_17 rfl rfl ?_
  refine g_aload_n (np := 19) B.1 dJ5_ensureCapacityInternal_d00df_18 rfl rfl ?_
  refine gf_java_lang_AbstractStringBuilder_15_13 (np := 22) B.1 k hk dJ5_ensureCapacityInternal_d00df_19 rfl ?_
  refine g_aload_n (np := 23) B.1 dJ5_ensureCapacityInternal_d00df_22 rfl rfl ?_
  refine g_iload_n (np := 24) B.1 dJ5_ensureCapacityInternal_d00df_23 rfl rfl ?_
  refine gc_java_lang_AbstractStringBuilder_104 (np := 27) B k hk (oJ5_newCapacity_0f7a4 B.1.tr k hk (nI n) s0 _ _ (newCap_ok hc h1 h2 hlt)) (Nat.le_of_ble_eq_true rfl) (Nat.le_of_ble_eq_true rfl) (Nat.le_of_ble_eq_true rfl) (Nat.zero_le _) (Nat.zero_le _) dJ5_ensureCapacityInternal_d00df_24 rfl (fun r τ hr => ?_)
  rw [hr.1, hr.2]
  clear hr
  generalize capN (s0.2.2.1 k) n = q9 at h4 c1 c2 c3 ⊢
  refine g_aload_n (np := 28) B.1 dJ5_ensureCapacityInternal_d00df_27 rfl rfl ?_
  refine gf_java_lang_AbstractStringBuilder_22_13 (np := 31) B.1 k hk dJ5_ensureCapacityInternal_d00df_28 rfl ?_
  refine g_ishl (np := 32) B.1 dJ5_ensureCapacityInternal_d00df_31 rfl ?_
  rw [hc, sb_shl0]
  intro H locs ls hC hD hS hL
  have F := B.1
  have hfx : CallFix (fP K) (fM K) (fC K) cJ5_ensureCapacityInternal_d00df 3 (fS K) (fA K) lw_good "java/lang/AbstractStringBuilder" := ⟨F.x, F.b, F.ml.trans F.n, F.o, F.w⟩
  have hG : GoodIn lw_good (Cond.code yJ7_copyOf_9075b cJ7_copyOf_9075b 3 (some (.array .byte)) :: lw_good) := by
    intro w hw
    have h2 : w ∈ lw_good := by
      rcases List.mem_cons.mp hw with e | e
      · rw [e]; exact b_146
      · exact e
    exact ⟨h2, good_of_word (List.mem_filter.mp h2).2⟩
  have run : va_Run (fP K) (fL K) (fE K) (fR K) (fS K) (fM K) (fA K) (fB K) (fMe K) (fC K) H locs 0 0 1 q9 (F0 (fM K) 32 ls [.int (nI q9), .ref (s0.2.1 k), .ref (xad (fX K) 13 k)]) [.ref (xad (fX K) 13 k)] (QB (fX K) s0 k q9 ([.ref (s0.2.1 k), .int (nI q9)] : List Value).toArray) (XA (fX K)) := va_runS (g := F0 (fM K) 32 ls [.int (nI q9), .ref (s0.2.1 k), .ref (xad (fX K) 13 k)]) (rest := [.ref (xad (fX K) 13 k)]) (cells := 0) (slots := 0) (H := H) (locs := locs) hfx (o_copyOf (l := fL K) (x := fX K) B.1.tr hk s0 (q := q9) c3 (by omega) hfit) ⟨callB_of 2 F.w hG rfl rfl rfl (F.w _ b_56) (F.w _ b_144) (by decide +kernel) ⟨by rw [B.2.1]; exact Nat.le_of_ble_eq_true rfl, by rw [B.2.1]; exact Nat.le_of_ble_eq_true rfl⟩, F.w _ b_145⟩
    ⟨fun a U g mk q => ⟨q.1, q.2.moved (State.WarmedH.refl U) rfl⟩, fun U hU hW => ⟨rfl, bd_wd F hC hD hS hU hW⟩⟩ rfl rfl (hL.1.trans F.n) rfl (lv_room (Nat.le_of_ble_eq_true rfl)) dJ5_ensureCapacityInternal_d00df_32 (by rw [B.2.1]; exact ⟨Nat.le_of_ble_eq_true rfl, by show 0 + q9 ≤ 302; omega⟩)
  intro T hT X
  obtain ⟨v, st₀, t, T', L, h0, X', hfl, e1, e2, ⟨⟨b, hv, hC1, hD1, ⟨hb1, hb2⟩, hat⟩, hz⟩, hgo⟩ := run T hT X
  cases hv
  have hS' : va_S (XA (fX K)) (fS K).heap T'.heap (locs ++ L) := by
    refine ⟨?_, ?_, ?_⟩
    · rw [e1]
      exact Nat.le_trans hS.1 (by have := hz.1; rw [h0] at this; exact this)
    · intro q h1 h2
      rw [e1]
      have h3 := hz.2 q (by rw [h0]; exact Nat.lt_of_lt_of_le h1 hS.1) h2
      rw [h3, h0]
      exact hS.2.1 q h1 h2
    · intro z hzz
      rcases List.mem_append.mp hzz with h | h
      · exact hS.2.2 z h
      · exact hfl z h
  have hC' : Cells (fX K) s0 T'.heap := by rw [e1]; exact hC1
  have hat' : va_at (xD (fX K)) vwCl (b, .inl (xct (fX K) 3, q9, .inl (gcpy s0 k))) T'.heap := by rw [e1]; exact hat
  have hP2 : va_P (xD (fX K)) vwCl (WS (fX K) s0 ++ [(b, .inl (xct (fX K) 3, q9, .inl (gcpy s0 k)))]) T'.heap := (ws_P hC').app (fun j z hj => by
    match j, hj with
    | 0, hj => cases hj; exact hat'
    | j + 1, hj => simp at hj)
  have hnb : ∀ (j : Nat) (z : Nat × va_E), (WS (fX K) s0)[j]? = some z → z.1 ≠ b := by
    intro j z hj
    obtain ⟨f', k', hk', -, rfl⟩ := ws_of hj
    exact hb1 f' k' hk'
  have hD2 : va_D (XA (fX K)) (WS (fX K) s0 ++ [(b, .inl (xct (fX K) 3, q9, .inl (gcpy s0 k)))]) := by
    have hDw := ws_D hD1
    refine ⟨fun i j p z hi hj e => ?_, fun i z hi => ?_⟩
    · rcases Nat.lt_or_ge i (WS (fX K) s0).length with g1 | g1 <;> rcases Nat.lt_or_ge j (WS (fX K) s0).length with g2 | g2
      · rw [List.getElem?_append_left g1] at hi
        rw [List.getElem?_append_left g2] at hj
        exact hDw.1 i j p z hi hj e
      · rw [List.getElem?_append_left g1] at hi
        rw [List.getElem?_append_right g2] at hj
        obtain rfl : z = (b, .inl (xct (fX K) 3, q9, .inl (gcpy s0 k))) := by simpa using (List.mem_of_getElem? hj)
        exact absurd e (hnb i p hi)
      · rw [List.getElem?_append_right g1] at hi
        rw [List.getElem?_append_left g2] at hj
        obtain rfl : p = (b, .inl (xct (fX K) 3, q9, .inl (gcpy s0 k))) := by simpa using (List.mem_of_getElem? hi)
        exact absurd e.symm (hnb j z hj)
      · have a1 := (List.getElem?_eq_some_iff.mp hi).1
        have a2 := (List.getElem?_eq_some_iff.mp hj).1
        simp only [List.length_append, List.length_cons, List.length_nil] at a1 a2
        omega
    · rcases Nat.lt_or_ge i (WS (fX K) s0).length with g1 | g1
      · rw [List.getElem?_append_left g1] at hi
        exact hDw.2 i z hi
      · rw [List.getElem?_append_right g1] at hi
        obtain rfl : z = (b, .inl (xct (fX K) 3, q9, .inl (gcpy s0 k))) := by simpa using (List.mem_of_getElem? hi)
        exact hb2
  obtain ⟨q0, hq0⟩ := ws_at (fX K) s0 (f := 13) (k := k) hk
  have hq0l := (List.getElem?_eq_some_iff.mp hq0).1
  have KK : W (fP K) (fL K) (fE K) (fR K) (fS K) (fM K) (fA K) (fB K) (fMe K) (fC K) T'.heap (locs ++ L) (0 + 1) (0 + q9) (fQ K) (F0 (fM K) 35 ls [.ref b, .ref (xad (fX K) 13 k)]) := by
    refine va_put F.x F.b F.w inJ4 tyJ4 tyJ4_ok nmJ4 F.o F.k hP2 hD2 hS' q0 (a := xad (fX K) 13 k) (ci := 1) (C := RJ4) (T := TJ4) (N := 4) (fs := [.ref (s0.2.1 k), .int (rd s0 13 k 1), .int (rd s0 13 k 2), .int (rd s0 13 k 3)]) ((List.getElem?_append_left hq0l).trans hq0) rfl 0 (by decide) (F.w _ b_99) (fun _ h => h) rfl (ty := .array .byte) (by decide +kernel) rfl rfl (Nat.le_of_ble_eq_true rfl) dJ5_ensureCapacityInternal_d00df_35 (fun H1 locs1 hP1 _ hS1 => ?_)
    have hC9 : Cells (fX K) (grow s0 k b q9) H1 := by
      intro f' k' hk'
      by_cases hx13 : f' = 13 ∧ k' = k
      · obtain ⟨rfl, rfl⟩ := hx13
        have := hP1 q0 _ (List.getElem?_set_self (by simp only [List.length_append]; omega))
        have e9 : el (fX K) (grow s0 k' b q9) 13 k' = .inr (1, [.ref b, .int (rd s0 13 k' 1), .int (rd s0 13 k' 2), .int (rd s0 13 k' 3)]) := by
          show (Sum.inr (1, [Value.ref (if k' = k' then b else s0.2.1 k'), .int (rd s0 13 k' 1), .int (rd s0 13 k' 2), .int (rd s0 13 k' 3)]) : va_E) = _
          rw [if_pos rfl]
        rw [e9]
        exact this
      by_cases hx16 : f' = 16 ∧ k' = k
      · obtain ⟨rfl, rfl⟩ := hx16
        have := hP1 (WS (fX K) s0).length (b, .inl (xct (fX K) 3, q9, .inl (gcpy s0 k'))) (by
          rw [List.getElem?_set_ne (by omega), List.getElem?_append_right (Nat.le_refl _), Nat.sub_self]
          rfl)
        have e8 : (fun j => rd (grow s0 k' b q9) 16 k' j) = gcpy s0 k' := by
          funext j
          rw [rd_grow, if_pos ⟨rfl, rfl⟩]
          unfold gcpy va_cpy
          by_cases hj : j < s0.2.2.1 k'
          · rw [if_pos hj, if_pos ⟨Nat.zero_le _, by omega⟩]
            simp
          · rw [if_neg hj, if_neg (by omega)]
        have e9 : el (fX K) (grow s0 k' b q9) 16 k' = .inl (xct (fX K) 3, q9, .inl (gcpy s0 k')) := by
          show (Sum.inl (xct (fX K) 3, (if k' = k' then q9 else s0.2.2.1 k'), .inl (fun j => rd (grow s0 k' b q9) 16 k' j)) : va_E) = _
          rw [if_pos rfl, e8]
        rw [e9]
        have e7 : adr (fX K) (grow s0 k' b q9) 16 k' = b := by
          show (if k' = k' then b else s0.2.1 k') = b
          rw [if_pos rfl]
        rw [e7]
        exact this
      · rw [el_grow_ne (fun e1 e2 => hx13 ⟨e1, e2⟩) (fun e1 e2 => hx16 ⟨e1, e2⟩)]
        have e7 : adr (fX K) (grow s0 k b q9) f' k' = adr (fX K) s0 f' k' := by
          unfold adr
          by_cases e : f' = 16
          · rw [if_pos e, if_pos e]
            show (if k' = k then b else s0.2.1 k') = _
            rw [if_neg (fun z => hx16 ⟨e, z⟩)]
          · rw [if_neg e, if_neg e]
            rfl
        rw [e7]
        obtain ⟨j, hj⟩ := ws_at (fX K) s0 (f := f') (k := k') hk'
        have hjl := (List.getElem?_eq_some_iff.mp hj).1
        refine hP1 j _ ?_
        rw [List.getElem?_set_ne ?_, List.getElem?_append_left hjl]
        · exact hj
        · intro e0
          subst e0
          have h9 := congrArg Prod.fst (Option.some.inj (hq0.symm.trans hj))
          obtain ⟨a1, a2⟩ := hD1.1 13 k f' k' hk hk' h9
          exact hx13 ⟨a1.symm, a2.symm⟩
    have hD9 : Dis (fX K) (grow s0 k b q9) := by
      have ead : ∀ f' k', adr (fX K) (grow s0 k b q9) f' k' = if f' = 16 ∧ k' = k then b else adr (fX K) s0 f' k' := by
        intro f' k'
        unfold adr
        by_cases e : f' = 16
        · rw [if_pos e, if_pos e]
          show (if k' = k then b else s0.2.1 k') = _
          by_cases e2 : k' = k
          · rw [if_pos e2, if_pos ⟨e, e2⟩]
          · rw [if_neg e2, if_neg (fun z => e2 z.2)]
        · rw [if_neg e, if_neg e, if_neg (show ¬ (f' = 16 ∧ k' = k) from fun z => e z.1)]
          rfl
      refine ⟨fun f k1 f' k' h1 h2 e => ?_, fun f k1 h1 => ?_⟩
      · rw [ead, ead] at e
        by_cases a1 : f = 16 ∧ k1 = k <;> by_cases a2 : f' = 16 ∧ k' = k
        · exact ⟨a1.1.trans a2.1.symm, a1.2.trans a2.2.symm⟩
        · rw [if_pos a1, if_neg a2] at e
          exact absurd e.symm (hb1 f' k' h2)
        · rw [if_neg a1, if_pos a2] at e
          exact absurd e (hb1 f k1 h1)
        · rw [if_neg a1, if_neg a2] at e
          exact hD1.1 f k1 f' k' h1 h2 e
      · rw [ead]
        split
        · exact hb2
        · exact hD1.2 f k1 h1
    obtain ⟨QN9, QX9, eQ9, hN9, hX9⟩ := B.2.2.2.1
    rw [eQ9]
    exact W.widen (Nat.le_of_ble_eq_true rfl) (by omega) (vx_ret (W.vret F.x F.b (B.2.2.1.trans rfl) (fun t ht _ => hN9 _ _ t ⟨rfl, h4 hlt b⟩ (by rw [ht]; exact hC9) hD9 (hS1.F ht)) hS1.2.2 dJ5_ensureCapacityInternal_d00df_38 F.lk))
  obtain ⟨t2, a1, b1⟩ := KK T' rfl X'
  exact ⟨t2, hgo t2 a1, b1⟩
