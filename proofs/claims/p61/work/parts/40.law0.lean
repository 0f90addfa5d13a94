/-! THE LAW OF P61: the script, calls in a try, calls of what has handlers -/
theorem Fx.mo {K : Fr} {cc : ByteArray} {own : String} {nL : Nat} (F : Fx K cc own nL) : More (fX K) (fS K) (fS K).heap := by
  obtain ⟨-, -, -, -, -, -, -, -, -, -, m⟩ := F.s.2.2.2.2.2
  exact m
theorem Fx.nc {K : Fr} {cc : ByteArray} {own : String} {nL : Nat} (F : Fx K cc own nL) : NCs (fS K) := F.mo.1
section SCRR
variable {K : Fr} {cells slots : Nat} {σ : Mem} {cc : ByteArray} {own : String} {nL pc : Nat} {lv lv' : List (Option Value)} {st : List Value}
theorem g_slen (F : Fx K cc own nL) {S : Scr} (hS : scr (fX K) = S) (hdg : decode cc pc = .ok (.arraylength, 1)) {np : Nat} (hp : pc + 1 = np) (kk : Go K cells slots σ np lv (.int (nI S.1) :: st)) : Go K cells slots σ pc lv (.ref (xen (fX K) 5 0) :: st) := by
  subst hp
  subst hS
  exact fun H locs ls hC hD hS hL => va_tlen F.x F.b F.mo.2.2 hS (v := nI (scr (fX K)).1) rfl hdg (kk H locs ls hC hD hS hL)
theorem g_sld (F : Fx K cc own nL) {S : Scr} (hS : scr (fX K) = S) {i : Int32} (hin : vp_in i S.1) (hdg : decode cc pc = .ok (.iaload, 1)) {np : Nat} (hp : pc + 1 = np) (kk : Go K cells slots σ np lv (.int (S.2 i.toNatClampNeg) :: st)) : Go K cells slots σ pc lv (.int i :: .ref (xen (fX K) 5 0) :: st) := by
  subst hp
  subst hS
  exact fun H locs ls hC hD hS hL => va_ti F.x F.b F.mo.2.2 hS hin (v := .int ((scr (fX K)).2 i.toNatClampNeg)) rfl hdg (kk H locs ls hC hD hS hL)
theorem g_iushr (F : Fx K cc own nL) {a b : Int32} (hdg : decode cc pc = .ok (.iushr, 1)) {np : Nat} (hp : pc + 1 = np) (kk : Go K cells slots σ np lv (.int ((a.toUInt32 >>> (b.toUInt32 &&& Int32.toUInt32 31)).toInt32) :: st)) : Go K cells slots σ pc lv (.int b :: .int a :: st) := by
  subst hp
  exact fun H locs ls hC hD hS hL => lv_iushr F.x F.b hdg rfl (kk H locs ls hC hD hS hL)
end SCRR
theorem vx_met {l : Launch} {y : MethodName} {ws : List Cond} {rm : Room} {Pc : Array Value → State → Prop} {Qc : Array Value → State → Outcome → State → Prop} {mc ms : Nat} {free : Addr → Prop} (h : vx_Met l y ws rm Pc Qc (fun _ _ _ => False) mc ms free) : Met l y ws rm Pc Qc mc ms free := by
  intro p e ha hc hk s m args below hf happ hP hK
  obtain ⟨n, o, h1, h2, h3, h4⟩ := h p e ha hc hk s m args below hf happ hP hK
  refine ⟨n, o, h1, h2, h3, ?_⟩
  rcases h4 with h4 | ⟨q, -, E, ce, L, hx, -⟩
  · exact h4
  · exact absurd hx id
def MetH (l : Launch) (x : Ctx) (y : MethodName) (cc : ByteArray) (maxL : Nat) (hh : List (Nat × Nat × Nat × Nat)) (fr lo mc ms : Nat) (As : List Value) (σ : Mem) (Qm : Option Value → Mem → Prop) : Prop :=
  Met l y (Cond.codeWith y cc maxL (some .int) hh :: lw_good) ({ frames := fr, cells := mc, slots := ms, locals := lo }) (va_Pc As (Wd x σ)) (QN x Qm) mc ms (XA x)
def BdH (K : Fr) (cc : ByteArray) (own : String) (nL fr lo mc ms : Nat) (Qm : Option Value → Mem → Prop) (hh : List (Nat × Nat × Nat × Nat)) : Prop :=
  Fx K cc own nL ∧ fR K = ({ frames := fr, cells := mc, slots := ms, locals := lo } : Room) ∧ (fMe K).sig.returnType = some .int ∧ BQ K mc ms Qm (fun _ _ => False) ∧ (fC K).exceptionTable.toList = tableOf hh
theorem MetH.of {l : Launch} {x : Ctx} {y : MethodName} {cc : ByteArray} {maxL : Nat} {hh : List (Nat × Nat × Nat × Nat)} {fr lo mc ms : Nat} {As : List Value} {σ : Mem} {Qm : Option Value → Mem → Prop} (hl : l.stackTraces = false) (hy : plainName y.cls = true) (hn : (lg_sl As).length ≤ maxL) (lv : List (Option Value)) (hlv : lvl lv = lv_args 0 As)
    (body : ∀ K : Fr, BdH K cc y.cls maxL fr lo mc ms Qm hh → fX K = x → fL K = l → Go K 0 0 σ 0 lv []) : MetH l x y cc maxL hh fr lo mc ms As σ Qm := by
  refine vx_met (vx_ofWH (cc := cc) (maxL := maxL) (ret := some .int) (hh := hh) hy rfl ?_)
  intro p e s m args below meth c s₁ B hml hv
  obtain ⟨rfl, hC, hD, hK, hS, hb⟩ := hv
  have hts := atoms_spec (ws := Cond.codeWith y cc maxL (some .int) hh :: lw_good) B.pre
  have K1 := body (p, l, e, (headSpec (Cond.codeWith y cc maxL (some .int) hh :: lw_good) ({ frames := fr, cells := mc, slots := ms, locals := lo } : Room)).room, s, m, As.toArray, below, meth, c, x, maxL, vx_MQ below (QN x Qm) (fun _ _ _ => False) As.toArray s mc ms (XA x))
    ⟨⟨B.exec, B.bytes, hml, findClass_of_methodNamed B.named, fun w hw => hts w (List.mem_cons_of_mem _ hw), hK, hS, hb, B.notSynchronized, hl, rfl⟩, rfl, B.returns, ⟨_, _, rfl, fun v σ' t hq hC hD hF => ⟨⟨v, σ', rfl, hq, hC, hD⟩, hF⟩, fun E σ' t hq => absurd hq id⟩, vx_table (x := y) B (hts _ List.mem_cons_self)⟩ rfl rfl
  rw [lg_entry_eq]
  exact K1 s.heap [] _ hC hD va_S.rf ((lv_entry As hn).1 |> fun _ => Lh.of (lv_entry As hn) hlv)
section LH
variable {K : Fr} {cells slots : Nat} {σ : Mem} {cc : ByteArray} {own : String} {nL pc fr lo mc ms : Nat} {Qm : Option Value → Mem → Prop} {hh : List (Nat × Nat × Nat × Nat)} {lv lv' : List (Option Value)} {st : List Value}
theorem g_iretH (B : BdH K cc own nL fr lo mc ms Qm hh) {v : Int32} (hc : cells ≤ mc) (hs : slots ≤ ms) (hdg : decode cc pc = .ok (.ireturn, 1)) (hq : Qm (some (.int v)) σ) : Go K cells slots σ pc lv [.int v] := by
  intro H locs ls hC hD hS hL
  obtain ⟨QN9, QX9, eQ9, hN9, hX9⟩ := B.2.2.2.1
  rw [eQ9]
  exact W.widen hc hs (vx_ret (W.zret B.1.x B.1.b B.2.2.1 rfl (fun t ht _ => hN9 _ _ t hq (by rw [ht]; exact hC) hD (hS.F ht)) hS.2.2 hdg B.1.lk))
/-- a call in a try: it returns, or its exception is caught here -/
theorem g_callX (B : BdH K cc own nL fr lo mc ms Qm hh) {y' : MethodName} {i n : Nat}
    {cc' : ByteArray} {maxL' fr' lo' mc' ms' : Nat} {ret' : Option FieldType} {As : List Value} {Qm' : Option Value → Mem → Prop} {Em' : String → Mem → Prop} (hM : MetG (fL K) (fX K) y' cc' maxL' ret' fr' lo' mc' ms' (.ref (xad (fX K) 14 0) :: As) σ Qm' Em')
    (hcode : Cond.code y' cc' maxL' ret' ∈ lw_good) (hlink : Cond.methodLink own i y' ∈ lw_good) (hinst : Cond.instanceMethod y' ∈ lw_good) (hsel : Cond.selects "YarnMill" y' y' ∈ lw_good) (hini : Cond.initialized "YarnMill" ∈ lw_good)
    (hd : y'.cls = "YarnMill" ∧ y'.cls ≠ "java/lang/invoke/MethodHandle" ∧ y'.cls ≠ "java/lang/invoke/VarHandle" ∧ (parseMethodDescriptor y'.desc).map (fun d => d.parameters.length) = some n) (hn : As.length = n) (hfr : fr' + 1 ≤ fr) (hlo : 8 + (maxL' + 11) + lo' ≤ lo) (hst : (st.map fun v => v.category).sum ≤ 8) (hdg : decode cc pc = .ok (.invokevirtual i, 3))
    (hc : cells + mc' ≤ mc) (hs : slots + ms' ≤ ms)
    {np : Nat} (hp : pc + 3 = np) (kk : ∀ (r : Option Value) (σ' : Mem), Qm' r σ' → Go K (cells + mc') (slots + ms') σ' np lv (r.toList ++ st))
    (kx : ∀ (E : String) (σ' : Mem), Em' E σ' → ∃ (pre : List ExceptionTableEntry) (x : ExceptionTableEntry) (suf : List ExceptionTableEntry) (name : String), tableOf hh = pre ++ x :: suf ∧ (∀ z ∈ pre, covers z pc = false ∨ (z.catchType ≠ 0 ∧ ∃ nm : String, Cond.classLink own z.catchType nm ∈ lw_good ∧ va_Nc E nm (fS K))) ∧ covers x pc = true ∧ x.catchType ≠ 0 ∧ Cond.classLink own x.catchType name ∈ lw_good ∧ Cond.castable E name ∈ lw_tbl ∧ ∀ q : Nat, Go K (cells + mc') (slots + ms') σ' x.handlerPc lv [.ref q]) :
    Go K cells slots σ pc lv (As.reverse ++ .ref (xad (fX K) 14 0) :: st) := by
  subst hp
  intro H locs ls hC hD hS hL T hT X
  have F := B.1
  have hP : va_P (xD (fX K)) vwCl [(adr (fX K) σ 14 0, el (fX K) σ 14 0)] H := by
    intro j q hq
    match j, hq with
    | 0, hq => cases hq; exact hC 14 0 (show (0 : Nat) < 1 by decide)
    | j + 1, hq => simp at hq
  have hT2 : GoodIn lw_good (wsV own i "YarnMill" y' (Cond.code y' cc' maxL' ret' :: lw_good)) := by
    intro w hw
    have h2 : w ∈ lw_good := by
      unfold wsV at hw
      simp only [List.cons_append, List.nil_append, List.mem_cons] at hw
      rcases hw with e | e | e | e | e | e
      · rw [e]; exact hlink
      · rw [e]; exact hinst
      · rw [e]; exact hsel
      · rw [e]; exact hini
      · rw [e]; exact hcode
      · exact e
    exact ⟨h2, good_of_word (List.mem_filter.mp h2).2⟩
  have hfx : CallFix (fP K) (fM K) (fC K) cc nL (fS K) (fA K) lw_good own := ⟨F.x, F.b, F.ml.trans F.n, F.o, F.w⟩
  have run : vx_Run (fP K) (fL K) (fE K) (fR K) (fS K) (fM K) (fA K) (fB K) (fMe K) (fC K) H locs cells slots mc' ms' (F0 (fM K) pc ls (As.reverse ++ .ref (xad (fX K) 14 0) :: st)) st (QN (fX K) Qm' (Value.ref (xad (fX K) 14 0) :: As).toArray) (QX (fX K) Em') (XA (fX K)) :=
    vx_runV hfx hM (cwV n F.w hT2 rfl rfl rfl hd ⟨by rw [B.2.1]; exact hfr, by rw [B.2.1]; exact hlo⟩)
      ⟨fun a U g mk q => ⟨q.1, q.2.moved (State.WarmedH.refl U) rfl⟩, va_recv (q0 := 0) (ci := 13) (q := (RX12, TX12, 13)) F.k hP rfl rfl, fun U hU hW => ⟨rfl, bd_wd F hC hD hS hU hW⟩⟩ rfl hn (hL.1.trans F.n) rfl (lv_room hst) hdg (by rw [B.2.1]; exact ⟨hc, hs⟩)
  rcases run T hT X with ⟨v, st₀, t, T', L, h0, X', hfl, e1, e2, ⟨⟨r, σ', hv, hq, hw⟩, hz⟩, hgo⟩ | ⟨q, st₀, t, T', L, E, ce, h0, X', hfl, e1, e2, ⟨⟨σ', hq, hw⟩, hz⟩, hce, hcv, hcl, hgo⟩
  · cases hv
    have hS' : va_S (XA (fX K)) (fS K).heap T'.heap (locs ++ L) := by
      refine ⟨?_, ?_, ?_⟩
      · rw [e1]
        exact Nat.le_trans hS.1 (by have := hz.1; rw [h0] at this; exact this)
      · intro q h1 h2
        rw [e1]
        have h3 := hz.2 q (by rw [h0]; exact Nat.lt_of_lt_of_le h1 hS.1) h2
        rw [h3, h0]
        exact hS.2.1 q h1 h2
      · intro z hzz
        rcases List.mem_append.mp hzz with h | h
        · exact hS.2.2 z h
        · exact hfl z h
    have hC' : Cells (fX K) σ' T'.heap := by rw [e1]; exact hw.1
    obtain ⟨t2, a1, b1⟩ := kk v σ' hq T'.heap (locs ++ L) ls hC' hw.2 hS' hL T' rfl X'
    exact ⟨t2, hgo t2 a1, b1⟩
  · have hS' : va_S (XA (fX K)) (fS K).heap T'.heap (locs ++ L) := by
      refine ⟨?_, ?_, ?_⟩
      · rw [e1]
        exact Nat.le_trans hS.1 (by have := hz.1; rw [h0] at this; exact this)
      · intro q h1 h2
        rw [e1]
        have h3 := hz.2 q (by rw [h0]; exact Nat.lt_of_lt_of_le h1 hS.1) h2
        rw [h3, h0]
        exact hS.2.1 q h1 h2
      · intro z hzz
        rcases List.mem_append.mp hzz with h | h
        · exact hS.2.2 z h
        · exact hfl z h
    have hC' : Cells (fX K) σ' T'.heap := by rw [e1]; exact hw.1
    obtain ⟨pre, x, suf, name, k1, k2, k3, k4, k5, k6, k7⟩ := kx E σ' hq
    have K2 : vx_W (fP K) (fL K) (fE K) (fR K) (fS K) (fM K) (fA K) (fB K) (fMe K) (fC K) T'.heap (locs ++ L) (cells + mc') (slots + ms') (fQ K) (F0 (fM K) pc ls st) q :=
      vx_catch F.o pre x suf (B.2.2.2.2.trans k1) (fun z hz => (k2 z hz).imp id (fun ⟨h1, nm, h2, h3⟩ => ⟨h1, nm, F.w _ h2, h3⟩)) k3 k4 (F.w _ k5) (va_Nw.use rfl (F.s.2.2.2.2.1 _ k6 rfl)) (by rw [e1]; exact hce) hcv hcl (k7 q T'.heap (locs ++ L) ls hC' hw.2 hS' hL)
    obtain ⟨t2, a1, b1⟩ := K2 T' rfl X'
    exact ⟨t2, hgo.trans a1, b1⟩
end LH
section LHS
variable {K : Fr} {cells slots : Nat} {σ : Mem} {cc : ByteArray} {own : String} {nL pc fr lo mc ms : Nat} {ret : Option FieldType} {Qm : Option Value → Mem → Prop} {Em : String → Mem → Prop} {lv : List (Option Value)} {st : List Value}
/-- a call of a static method that has its own handlers -/
theorem g_callSH (B : Bd K cc own nL ret fr lo mc ms Qm Em) {i n : Nat} {y' : MethodName} {cc' : ByteArray} {maxL' fr' lo' mc' ms' : Nat} {hh : List (Nat × Nat × Nat × Nat)} {As : List Value} {Qm' : Option Value → Mem → Prop} (hM : MetH (fL K) (fX K) y' cc' maxL' hh fr' lo' mc' ms' As σ Qm')
    (hcode : Cond.codeWith y' cc' maxL' (some .int) hh ∈ lw_good) (hlink : Cond.methodLink own i y' ∈ lw_good) (hstat : Cond.static y' ∈ lw_good) (hini : Cond.initialized y'.cls ∈ lw_good)
    (hd : y'.cls ≠ "java/lang/invoke/MethodHandle" ∧ y'.cls ≠ "java/lang/invoke/VarHandle" ∧ (parseMethodDescriptor y'.desc).map (fun d => d.parameters.length) = some n) (hn : As.length = n) (hfr : fr' + 1 ≤ fr) (hlo : 8 + (maxL' + 11) + lo' ≤ lo) (hst : (st.map fun v => v.category).sum ≤ 8) (hdg : decode cc pc = .ok (.invokestatic i, 3))
    (hc : cells + mc' ≤ mc) (hs : slots + ms' ≤ ms)
    {np : Nat} (hp : pc + 3 = np) (kk : ∀ (r : Option Value) (σ' : Mem), Qm' r σ' → Go K (cells + mc') (slots + ms') σ' np lv (r.toList ++ st)) : Go K cells slots σ pc lv (As.reverse ++ st) := by
  subst hp
  refine g_ranN (a := As.toArray) (fun H locs ls hC hD hS hL => ?_) rfl kk
  have F := B.1
  have hG : GoodIn lw_good (va_wsS own i y' (Cond.codeWith y' cc' maxL' (some .int) hh :: lw_good)) := by
    intro w hw
    have h2 : w ∈ lw_good := by
      unfold va_wsS at hw
      simp only [List.cons_append, List.nil_append, List.mem_cons] at hw
      rcases hw with e | e | e | e | e
      · rw [e]; exact hlink
      · rw [e]; exact hstat
      · rw [e]; exact hini
      · rw [e]; exact hcode
      · exact e
    exact ⟨h2, good_of_word (List.mem_filter.mp h2).2⟩
  have hfx : CallFix (fP K) (fM K) (fC K) cc nL (fS K) (fA K) lw_good own := ⟨F.x, F.b, F.ml.trans F.n, F.o, F.w⟩
  exact vx_runSW hfx hM (vx_cwSW n F.w hG rfl rfl rfl hd ⟨by rw [B.2.1]; exact hfr, by rw [B.2.1]; exact hlo⟩)
    ⟨fun a U g mk q => ⟨q.1, q.2.moved (State.WarmedH.refl U) rfl⟩, fun U hU hW => ⟨rfl, bd_wd F hC hD hS hU hW⟩⟩ rfl hn (hL.1.trans F.n) rfl (lv_room hst) hdg (by rw [B.2.1]; exact ⟨hc, hs⟩)
end LHS
