/-! CALLS OF OTHER KINDS, THROWS, SWITCHES, ROWS OF REFERENCES -/
theorem MetG.met {l : Launch} {x : Ctx} {y : MethodName} {cc : ByteArray} {maxL : Nat} {ret : Option FieldType} {fr lo mc ms : Nat} {As : List Value} {σ : Mem} {Qm : Option Value → Mem → Prop} (h : MetG l x y cc maxL ret fr lo mc ms As σ Qm (fun _ _ => False)) :
    Met l y (Cond.code y cc maxL ret :: lw_good) ({ frames := fr, cells := mc, slots := ms, locals := lo }) (va_Pc As (Wd x σ)) (QN x Qm) mc ms (XA x) := by
  intro p e ha hc hk s m args below hf happ hP hK
  obtain ⟨n, o, h1, h2, h3, h4⟩ := h p e ha hc hk s m args below hf happ hP hK
  refine ⟨n, o, h1, h2, h3, ?_⟩
  rcases h4 with h4 | ⟨q, -, E, ce, L, hx, -⟩
  · exact h4
  · obtain ⟨⟨σ', hf, -⟩, -⟩ := hx
    exact absurd hf id
section BD2
variable {K : Fr} {cells slots : Nat} {σ : Mem} {cc : ByteArray} {own : String} {nL pc fr lo mc ms : Nat} {ret : Option FieldType} {Qm : Option Value → Mem → Prop} {Em : String → Mem → Prop} {lv : List (Option Value)} {st : List Value}
theorem g_ranN {mc' ms' : Nat} {Qm' : Option Value → Mem → Prop} {a : Array Value} {st0 : List Value}
    (hr : ∀ (H : Heap) (locs : List Loc) (ls : Array Slot), Cells (fX K) σ H → Dis (fX K) σ → va_S (XA (fX K)) (fS K).heap H locs → Lh ls (fN K) lv →
      va_Run (fP K) (fL K) (fE K) (fR K) (fS K) (fM K) (fA K) (fB K) (fMe K) (fC K) H locs cells slots mc' ms' (F0 (fM K) pc ls st0) st (QN (fX K) Qm' a) (XA (fX K)))
    {np : Nat} (hp : pc + 3 = np) (kk : ∀ (r : Option Value) (σ' : Mem), Qm' r σ' → Go K (cells + mc') (slots + ms') σ' np lv (r.toList ++ st)) : Go K cells slots σ pc lv st0 := by
  subst hp
  intro H locs ls hC hD hS hL T hT X
  obtain ⟨v, st₀, t, T', L, h0, X', hfl, e1, e2, ⟨⟨r, σ', hv, hq, hw⟩, hz⟩, hgo⟩ := hr H locs ls hC hD hS hL T hT X
  cases hv
  have hS' : va_S (XA (fX K)) (fS K).heap T'.heap (locs ++ L) := by
    refine ⟨?_, ?_, ?_⟩
    · rw [e1]
      exact Nat.le_trans hS.1 (by have := hz.1; rw [h0] at this; exact this)
    · intro q h1 h2
      rw [e1]
      have h3 := hz.2 q (by rw [h0]; exact Nat.lt_of_lt_of_le h1 hS.1) h2
      rw [h3, h0]
      exact hS.2.1 q h1 h2
    · intro z hzz
      rcases List.mem_append.mp hzz with h | h
      · exact hS.2.2 z h
      · exact hfl z h
  have hC' : Cells (fX K) σ' T'.heap := by rw [e1]; exact hw.1
  obtain ⟨t2, a1, b1⟩ := kk v σ' hq T'.heap (locs ++ L) ls hC' hw.2 hS' hL T' rfl X'
  exact ⟨t2, hgo t2 a1, b1⟩
/-- a call of a nest mate's private static method -/
theorem g_callSN (B : Bd K cc own nL ret fr lo mc ms Qm Em) {i n : Nat} {host : String}
    {y' : MethodName} {cc' : ByteArray} {maxL' fr' lo' mc' ms' : Nat} {ret' : Option FieldType} {As : List Value} {Qm' : Option Value → Mem → Prop} (hM : MetG (fL K) (fX K) y' cc' maxL' ret' fr' lo' mc' ms' As σ Qm' (fun _ _ => False))
    (hcode : Cond.code y' cc' maxL' ret' ∈ lw_good) (hlink : Cond.methodLinkNest own i y' host ∈ lw_tbl) (hstat : Cond.static y' ∈ lw_good) (hini : Cond.initialized y'.cls ∈ lw_good)
    (hd : y'.cls ≠ "java/lang/invoke/MethodHandle" ∧ y'.cls ≠ "java/lang/invoke/VarHandle" ∧ (parseMethodDescriptor y'.desc).map (fun d => d.parameters.length) = some n) (hn : As.length = n) (hfr : fr' + 1 ≤ fr) (hlo : 8 + (maxL' + 11) + lo' ≤ lo) (hst : (st.map fun v => v.category).sum ≤ 8) (hdg : decode cc pc = .ok (.invokestatic i, 3))
    (hc : cells + mc' ≤ mc) (hs : slots + ms' ≤ ms)
    {np : Nat} (hp : pc + 3 = np) (kk : ∀ (r : Option Value) (σ' : Mem), Qm' r σ' → Go K (cells + mc') (slots + ms') σ' np lv (r.toList ++ st)) : Go K cells slots σ pc lv (As.reverse ++ st) := by
  subst hp
  refine g_ranN (a := As.toArray) (fun H locs ls hC hD hS hL => ?_) rfl kk
  have F := B.1
  have hG : GoodIn lw_good (Cond.code y' cc' maxL' ret' :: lw_good) := by
    intro w hw
    have h2 : w ∈ lw_good := by
      rcases List.mem_cons.mp hw with e | e
      · rw [e]; exact hcode
      · exact e
    exact ⟨h2, good_of_word (List.mem_filter.mp h2).2⟩
  have hfx : CallFix (fP K) (fM K) (fC K) cc nL (fS K) (fA K) lw_good own := ⟨F.x, F.b, F.ml.trans F.n, F.o, F.w⟩
  exact va_runSN hfx hM.met ⟨va_cnB n F.w hG rfl rfl rfl (F.s.2.2.2.2.1 _ hlink rfl) (F.w _ hini) hd ⟨by rw [B.2.1]; exact hfr, by rw [B.2.1]; exact hlo⟩, F.w _ hstat, trivial⟩
    ⟨fun a U g mk q => ⟨q.1, q.2.moved (State.WarmedH.refl U) rfl⟩, fun U hU hW => ⟨rfl, bd_wd F hC hD hS hU hW⟩⟩ rfl hn (hL.1.trans F.n) rfl (lv_room hst) hdg (by rw [B.2.1]; exact ⟨hc, hs⟩)
/-- Enum.ordinal on a command -/
theorem o_ordinal {l : Launch} {x : Ctx} (hl : l.stackTraces = false) {j : Nat} (hj : j < 9) (hlink : Cond.fieldLink "java/lang/Enum" 7 "java/lang/Enum" "ordinal" "I" ∈ lw_good) (σ : Mem) (Q : Int32 → Mem → Prop) (E : String → Mem → Prop) (h : Q (nI j) σ) : MetG l x yJx29ce0_ordinal_8abf5 cJx29ce0_ordinal_8abf5 1 (some .int) 0 0 0 0 [.ref (xen x 0 j)] σ (RI Q) E := by
  refine MetG.of hl (by decide) (Nat.le_of_ble_eq_true rfl) [some (.ref (xen x 0 j))] rfl (fun K B hx _ => ?_)
  subst hx
  refine g_aload_n (np := 1) B.1 dJx29ce0_ordinal_8abf5_0 rfl rfl ?_
  have hv : ∀ j : Nat, j < 9 → ([0, 1, 2, 3, 4, 5, 6, 7, 8] : List Int32).getD j 0 = nI j := by decide
  have key : Go K 0 0 σ 4 [some (.ref (xen (fX K) 0 j))] [.int (nI j)] := g_iret B (ty := .int) rfl rfl (Nat.le_refl _) (Nat.le_refl _) dJx29ce0_ordinal_8abf5_4 ⟨_, rfl, h⟩
  intro H locs ls hC hD hS hL
  refine va_getE (i := j) (q := ("java/lang/Enum", "ordinal", "I", [0, 1, 2, 3, 4, 5, 6, 7, 8])) (ref := "java/lang/Enum") B.1.x B.1.b B.1.s.1 (by exact hj) hS B.1.o (by decide) (B.1.w _ hlink) (fun _ h => h) dJx29ce0_ordinal_8abf5_1 ?_
  show W _ _ _ _ _ _ _ _ _ _ _ _ _ _ _ (F0 (fM K) 4 ls [.int (([0, 1, 2, 3, 4, 5, 6, 7, 8] : List Int32).getD j 0)])
  rw [hv j hj]
  exact key H locs ls hC hD hS hL
theorem g_ordinal (B : Bd K cc own nL ret fr lo mc ms Qm Em) {i : Nat} {j : Nat} (hj : j < 9)
    (hfl : Cond.fieldLink "java/lang/Enum" 7 "java/lang/Enum" "ordinal" "I" ∈ lw_good) (hlink : Cond.methodLink own i ⟨"YarnMill$Command", "ordinal", "()I"⟩ ∈ lw_good) (hsame : Cond.sameMethod "YarnMill$Command" "java/lang/Enum" "ordinal" "()I" ∈ lw_good) (hsel : Cond.selects "YarnMill$Command" ⟨"YarnMill$Command", "ordinal", "()I"⟩ yJx29ce0_ordinal_8abf5 ∈ lw_good) (hinst : Cond.instanceMethod yJx29ce0_ordinal_8abf5 ∈ lw_good) (hini : Cond.initialized "java/lang/Enum" ∈ lw_good) (hcode : Cond.code yJx29ce0_ordinal_8abf5 cJx29ce0_ordinal_8abf5 1 (some .int) ∈ lw_good)
    (hfr : 1 ≤ fr) (hlo : 20 ≤ lo) (hst : (st.map fun v => v.category).sum ≤ 8) (hc : cells ≤ mc) (hs : slots ≤ ms) (hdg : decode cc pc = .ok (.invokevirtual i, 3)) {np : Nat} (hp : pc + 3 = np)
    (kk : Go K cells slots σ np lv (.int (nI j) :: st)) : Go K cells slots σ pc lv (.ref (xen (fX K) 0 j) :: st) := by
  subst hp
  refine g_ranN (st := st) (mc' := 0) (ms' := 0) (Qm' := RI (fun r τ => r = nI j ∧ τ = σ)) (a := (Value.ref (xen (fX K) 0 j) :: []).toArray) (fun H locs ls hC hD hS hL => ?_) rfl (fun r τ ⟨i, e, q1, q2⟩ => by rw [e, q1, q2]; exact kk)
  have F := B.1
  have hT : GoodIn lw_good (va_wsU own i "YarnMill$Command" "java/lang/Enum" ⟨"YarnMill$Command", "ordinal", "()I"⟩ yJx29ce0_ordinal_8abf5 (Cond.code yJx29ce0_ordinal_8abf5 cJx29ce0_ordinal_8abf5 1 (some .int) :: lw_good)) := by
    intro w hw
    have h2 : w ∈ lw_good := by
      unfold va_wsU at hw
      simp only [List.cons_append, List.nil_append, List.mem_cons] at hw
      rcases hw with e | e | e | e | e | e | e
      · rw [e]; exact hlink
      · rw [e]; exact hsame
      · rw [e]; exact hsel
      · rw [e]; exact hinst
      · rw [e]; exact hini
      · rw [e]; exact hcode
      · exact e
    exact ⟨h2, good_of_word (List.mem_filter.mp h2).2⟩
  have hfx : CallFix (fP K) (fM K) (fC K) cc nL (fS K) (fA K) lw_good own := ⟨F.x, F.b, F.ml.trans F.n, F.o, F.w⟩
  have hob : ∃ cell : Cell, H[xen (fX K) 0 j]? = some cell ∧ cell.vm.isStatics = false ∧ (fS K).vm.findClass "YarnMill$Command" = some cell.cls := by
    obtain ⟨cell, h1, h2, h3, -⟩ := (F.s.1.1 j hj).2.1.kept hS.2.1
    exact ⟨cell, h1, h2, h3⟩
  exact va_runU (As := []) hfx (o_ordinal F.tr hj hfl σ _ _ ⟨rfl, rfl⟩).met (va_cwU 0 F.w hT rfl rfl rfl rfl ⟨by decide, by decide, by decide +kernel⟩ ⟨by rw [B.2.1]; exact hfr, by rw [B.2.1]; exact hlo⟩)
    ⟨fun a U g mk q => ⟨q.1, q.2.moved (State.WarmedH.refl U) rfl⟩, hob, fun U hU hW => ⟨rfl, bd_wd F hC hD hS hU hW⟩⟩ rfl rfl (hL.1.trans F.n) rfl (lv_room hst) hdg (by rw [B.2.1]; exact ⟨hc, hs⟩)
/-- new E("a text"), thrown and not caught here -/
theorem g_throw (B : Bd K cc own nL ret fr lo mc ms Qm Em) {cls text : String} {names : List String} {ik is ic : Nat} (hown : own = "YarnMill") (hcls : Bundle.fit cls = true) (hnames : ∀ n ∈ names, Bundle.fit n = true)
    (hk : Cond.classLink own ik cls ∈ lw_good) (hini : Cond.initialized cls ∈ lw_good) (hstr : (is, text) ∈ exTx) (hat : ∀ w ∈ vx_atS own ic cls names, w ∈ lw_tbl ∧ (goodWord w || tabW w) = true)
    (hgood : ∀ w ∈ Cond.classLink own ik cls :: Cond.initialized cls :: vx_atS own ic cls names, vx_ot w = true)
    (d0 : decode cc pc = .ok (.new ik, 3)) (d3 : decode cc (pc + 3) = .ok (.dup, 1)) (d4 : decode cc (pc + 4) = .ok (.ldc is, 2)) (d6 : decode cc (pc + 6) = .ok (.invokespecial ic, 3)) (d9 : decode cc (pc + 9) = .ok (.athrow, 1))
    (hfr : names.length + 3 < fr) (hlo : (st.map fun v => v.category).sum + (13 * (names.length + 1) + 43) ≤ lo) (hc : cells + 1 ≤ mc) (hs : slots + 6 ≤ ms) (hq : Em cls σ) : Go K cells slots σ pc lv st := by
  subst hown
  intro H locs ls hC hD hS hL
  have F := B.1
  obtain ⟨-, -, -, hex, hU, hN, -⟩ := F.s.2.2.2.2.2
  obtain ⟨sa, hsa⟩ := hex _ hstr
  obtain ⟨QN9, QX9, eQ9, hN9, hX9⟩ := B.2.2.2.1
  rw [eQ9]
  refine vx_throwS (text := text) (sa := sa) F.x F.b F.tr F.o hcls hnames (F.w _ hk) (F.w _ hini) hsa (fun w hw => ?_) hgood hU hN hS (hL.1.trans F.ml.symm) d0 d3 d4 d6 d9 (fun z hz => absurd (B.nh hq z hz) id) (by rw [B.2.1]; exact hfr) (by rw [B.2.1]; exact hlo) (by rw [B.2.1]; exact hc) (by rw [B.2.1]; exact hs) F.lk (fun t hvm hz hk => ?_) hS.2.2 hc hs
  · obtain ⟨h1, h2⟩ := hat w hw
    rw [Bool.or_eq_true] at h2
    rcases h2 with h2 | h2
    · exact F.w w (List.mem_filter.mpr ⟨List.mem_append_right _ h1, h2⟩)
    · have h3 := F.s.2.2.2.2.1 w h1 h2
      exact va_Nw.use (by cases w <;> simp only [tabW, Bool.false_eq_true] at h2 <;> rfl) h3
  · refine hX9 _ _ _ hq (hC.kept hk) hD ⟨Nat.le_trans hS.1 hz, fun q h1 h2 => ?_⟩
    rw [hk q (Nat.lt_of_lt_of_le h1 hS.1)]
    exact hS.2.1 q h1 h2
/-- new E("a text"), thrown and not caught here -/
theorem g_throwW (B : Bd K cc own nL ret fr lo mc ms Qm Em) {cls text : String} {names : List String} {ik is ic : Nat} (hown : own = "YarnMill") (hcls : Bundle.fit cls = true) (hnames : ∀ n ∈ names, Bundle.fit n = true)
    (hk : Cond.classLink own ik cls ∈ lw_good) (hini : Cond.initialized cls ∈ lw_good) (hstr : (is, text) ∈ exTx) (hat : ∀ w ∈ vx_atS own ic cls names, w ∈ lw_tbl ∧ (goodWord w || tabW w) = true)
    (hgood : ∀ w ∈ Cond.classLink own ik cls :: Cond.initialized cls :: vx_atS own ic cls names, vx_ot w = true)
    (d0 : decode cc pc = .ok (.new ik, 3)) (d3 : decode cc (pc + 3) = .ok (.dup, 1)) (d4 : decode cc (pc + 4) = .ok (.ldc_w is, 3)) (d6 : decode cc (pc + 7) = .ok (.invokespecial ic, 3)) (d9 : decode cc (pc + 10) = .ok (.athrow, 1))
    (hfr : names.length + 3 < fr) (hlo : (st.map fun v => v.category).sum + (13 * (names.length + 1) + 43) ≤ lo) (hc : cells + 1 ≤ mc) (hs : slots + 6 ≤ ms) (hq : Em cls σ) : Go K cells slots σ pc lv st := by
  subst hown
  intro H locs ls hC hD hS hL
  have F := B.1
  obtain ⟨-, -, -, hex, hU, hN, -⟩ := F.s.2.2.2.2.2
  obtain ⟨sa, hsa⟩ := hex _ hstr
  obtain ⟨QN9, QX9, eQ9, hN9, hX9⟩ := B.2.2.2.1
  rw [eQ9]
  refine vx_throwSW (text := text) (sa := sa) F.x F.b F.tr F.o hcls hnames (F.w _ hk) (F.w _ hini) hsa (fun w hw => ?_) hgood hU hN hS (hL.1.trans F.ml.symm) d0 d3 d4 d6 d9 (fun z hz => absurd (B.nh hq z hz) id) (by rw [B.2.1]; exact hfr) (by rw [B.2.1]; exact hlo) (by rw [B.2.1]; exact hc) (by rw [B.2.1]; exact hs) F.lk (fun t hvm hz hk => ?_) hS.2.2 hc hs
  · obtain ⟨h1, h2⟩ := hat w hw
    rw [Bool.or_eq_true] at h2
    rcases h2 with h2 | h2
    · exact F.w w (List.mem_filter.mpr ⟨List.mem_append_right _ h1, h2⟩)
    · have h3 := F.s.2.2.2.2.1 w h1 h2
      exact va_Nw.use (by cases w <;> simp only [tabW, Bool.false_eq_true] at h2 <;> rfl) h3
  · refine hX9 _ _ _ hq (hC.kept hk) hD ⟨Nat.le_trans hS.1 hz, fun q h1 h2 => ?_⟩
    rw [hk q (Nat.lt_of_lt_of_le h1 hS.1)]
    exact hS.2.1 q h1 h2
end BD2
section GM2
variable {K : Fr} {cells slots : Nat} {σ : Mem} {cc : ByteArray} {own : String} {nL pc : Nat} {lv lv' : List (Option Value)} {st : List Value}
theorem g_tabIn (F : Fx K cc own nL) {dflt lo hi : Int} {offs : Array Int} {len : Nat} {a : Int32} {off : Int} {tgt : Nat} (hdg : decode cc pc = .ok (.tableswitch dflt lo hi offs, len)) (h1 : ¬ a.toInt < lo) (h2 : ¬ hi < a.toInt) (ho : offs[(a.toInt - lo).toNat]? = some off) (ht : (pc : Int) + off = (tgt : Int)) (kk : Go K cells slots σ tgt lv st) : Go K cells slots σ pc lv (.int a :: st) :=
  fun H locs ls hC hD hS hL => lv_tableIn F.x F.b hdg h1 h2 ho ht (kk H locs ls hC hD hS hL)
theorem g_tabOut (F : Fx K cc own nL) {dflt lo hi : Int} {offs : Array Int} {len : Nat} {a : Int32} {tgt : Nat} (hdg : decode cc pc = .ok (.tableswitch dflt lo hi offs, len)) (h1 : a.toInt < lo ∨ hi < a.toInt) (ht : (pc : Int) + dflt = (tgt : Int)) (kk : Go K cells slots σ tgt lv st) : Go K cells slots σ pc lv (.int a :: st) :=
  fun H locs ls hC hD hS hL => lv_tableOut F.x F.b hdg h1 ht (kk H locs ls hC hD hS hL)
theorem g_look (F : Fx K cc own nL) {dflt : Int} {ps : Array (Int × Int)} {len : Nat} {a : Int32} {off : Int} {tgt : Nat} (hdg : decode cc pc = .ok (.lookupswitch dflt ps, len)) (hp : (ps.toList.zip (ps.toList.drop 1)).all (fun (a, next) => a.1 < next.1) = true) (ho : Op.lookupswitch.offset ps.toList dflt a.toInt = off) (ht : (pc : Int) + off = (tgt : Int)) (kk : Go K cells slots σ tgt lv st) : Go K cells slots σ pc lv (.int a :: st) :=
  fun H locs ls hC hD hS hL => lv_lookup F.x F.b hdg hp ho ht (kk H locs ls hC hD hS hL)
/-- the ring's states -/
theorem g_ring (F : Fx K cc own nL) {i : Int32} (hin : vp_in i 8) (hdg : decode cc pc = .ok (.aaload, 1)) {np : Nat} (hp : pc + 1 = np) (kk : Go K cells slots σ np lv (.ref (xad (fX K) 4 (3 + i.toNatClampNeg)) :: st)) : Go K cells slots σ pc lv (.int i :: .ref (xad (fX K) 6 0) :: st) := by
  subst hp
  intro H locs ls hC hD hS hL
  have hP : va_P (xD (fX K)) vwCl [(xad (fX K) 6 0, .inl (xct (fX K) 4, 8, .inr (.inr (.inr (.inr (fun j => some (xad (fX K) 4 (3 + j))))))))] H := by
    intro j q hq
    match j, hq with
    | 0, hq => cases hq; exact hC 6 0 (show (0 : Nat) < 1 by decide)
    | j + 1, hq => simp at hq
  exact va_aldq (C := "YarnMill$Stock") F.x F.b F.k hP 0 4 rfl rfl hin hdg (kk H locs ls hC hD hS hL)
theorem g_ifnull (F : Fx K cc own nL) {a : Nat} {off : Int} (hdg : decode cc pc = .ok (.ifnull off, 3)) {np : Nat} (hp : pc + 3 = np) (kk : Go K cells slots σ np lv st) : Go K cells slots σ pc lv (.ref a :: st) := by
  subst hp
  exact fun H locs ls hC hD hS hL => lv_ifnull F.x F.b hdg (kk H locs ls hC hD hS hL)
theorem g_ifnonnull (F : Fx K cc own nL) {a : Nat} {off : Int} {tgt : Nat} (hdg : decode cc pc = .ok (.ifnonnull off, 3)) (ht : (pc : Int) + off = (tgt : Int)) (kk : Go K cells slots σ tgt lv st) : Go K cells slots σ pc lv (.ref a :: st) :=
  fun H locs ls hC hD hS hL => lv_ifnonnull F.x F.b hdg ht (kk H locs ls hC hD hS hL)
theorem g_ifnullN (F : Fx K cc own nL) {off : Int} {tgt : Nat} (hdg : decode cc pc = .ok (.ifnull off, 3)) (ht : (pc : Int) + off = (tgt : Int)) (kk : Go K cells slots σ tgt lv st) : Go K cells slots σ pc lv (.null :: st) :=
  fun H locs ls hC hD hS hL => lv_ifnullN F.x F.b hdg ht (kk H locs ls hC hD hS hL)
theorem g_ifnonnullN (F : Fx K cc own nL) {off : Int} (hdg : decode cc pc = .ok (.ifnonnull off, 3)) {np : Nat} (hp : pc + 3 = np) (kk : Go K cells slots σ np lv st) : Go K cells slots σ pc lv (.null :: st) := by
  subst hp
  exact fun H locs ls hC hD hS hL => lv_ifnonnullN F.x F.b hdg (kk H locs ls hC hD hS hL)
theorem g_null (F : Fx K cc own nL) (hdg : decode cc pc = .ok (.aconst_null, 1)) {np : Nat} (hp : pc + 1 = np) (kk : Go K cells slots σ np lv (.null :: st)) : Go K cells slots σ pc lv st := by
  subst hp
  exact fun H locs ls hC hD hS hL => lv_null F.x F.b hdg (kk H locs ls hC hD hS hL)
end GM2
theorem i32_ne {x k : Int32} {n : Int} (h : ¬ x = k) (hk : k.toInt = n) : ¬ n = x.toInt := fun e => h (Int32.toInt_inj.mp (e.symm.trans hk.symm))
