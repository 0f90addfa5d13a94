/-! CONTRACTS: a method from a world to a world; it returns or throws. -/
def Wd (x : Ctx) (σ : Mem) (U : State) : Prop := Cells x σ U.heap ∧ Dis x σ ∧ va_K (xD x) vwCl (xtys x) U ∧ Stat x U U.heap ∧ xb x ≤ U.heap.size
theorem Wd.moved {x : Ctx} {σ : Mem} {u U : State} (hW : u.WarmedH U.vm) (hh : U.heap = u.heap) (h : Wd x σ u) : Wd x σ U :=
  ⟨by rw [hh]; exact h.1, h.2.1, h.2.2.1.moved hW.alike, by rw [hh]; exact h.2.2.2.1.moved hW, by rw [hh]; exact h.2.2.2.2⟩
def QN (x : Ctx) (Qm : Option Value → Mem → Prop) : Array Value → State → Outcome → State → Prop := fun _ st o t => (∃ (r : Option Value) (σ' : Mem), o = .returned r ∧ Qm r σ' ∧ Cells x σ' t.heap ∧ Dis x σ') ∧ va_F (XA x) st t
def QX (x : Ctx) (Em : String → Mem → Prop) : String → State → State → Prop := fun E st t => (∃ σ' : Mem, Em E σ' ∧ Cells x σ' t.heap ∧ Dis x σ') ∧ va_F (XA x) st t
def MetG (l : Launch) (x : Ctx) (y : MethodName) (cc : ByteArray) (maxL : Nat) (ret : Option FieldType) (fr lo mc ms : Nat) (As : List Value) (σ : Mem) (Qm : Option Value → Mem → Prop) (Em : String → Mem → Prop) : Prop :=
  vx_Met l y (Cond.code y cc maxL ret :: lw_good) ({ frames := fr, cells := mc, slots := ms, locals := lo }) (va_Pc As (Wd x σ)) (QN x Qm) (QX x Em) mc ms (XA x)
/-- what a body's end must give: the frame's goal is got by what holds there -/
def BQ (K : Fr) (mc ms : Nat) (Qm : Option Value → Mem → Prop) (Em : String → Mem → Prop) : Prop :=
  ∃ (QN9 : Array Value → State → Outcome → State → Prop) (QX9 : String → State → State → Prop), fQ K = vx_MQ (fB K) QN9 QX9 (fA K) (fS K) mc ms (XA (fX K)) ∧
    (∀ (v : Option Value) (σ : Mem) (t : State), Qm v σ → Cells (fX K) σ t.heap → Dis (fX K) σ → va_F (XA (fX K)) (fS K) t → QN9 (fA K) (fS K) (.returned v) t) ∧
    ∀ (E : String) (σ : Mem) (t : State), Em E σ → Cells (fX K) σ t.heap → Dis (fX K) σ → va_F (XA (fX K)) (fS K) t → QX9 E (fS K) t
/-- a body's fixed facts -/
def Bd (K : Fr) (cc : ByteArray) (own : String) (nL : Nat) (ret : Option FieldType) (fr lo mc ms : Nat) (Qm : Option Value → Mem → Prop) (Em : String → Mem → Prop) : Prop :=
  Fx K cc own nL ∧ fR K = ({ frames := fr, cells := mc, slots := ms, locals := lo } : Room) ∧ (fMe K).sig.returnType = ret ∧ BQ K mc ms Qm Em ∧ ((∀ z ∈ (fC K).exceptionTable.toList, False) ∨ ∀ (E : String) (τ : Mem), ¬ Em E τ)
theorem Bd.nh {K : Fr} {cc : ByteArray} {own : String} {nL : Nat} {ret : Option FieldType} {fr lo mc ms : Nat} {Qm : Option Value → Mem → Prop} {Em : String → Mem → Prop} (B : Bd K cc own nL ret fr lo mc ms Qm Em) {E : String} {τ : Mem} (h : Em E τ) : ∀ z ∈ (fC K).exceptionTable.toList, False := B.2.2.2.2.resolve_right (fun q => q _ _ h)
theorem MetG.of {l : Launch} {x : Ctx} {y : MethodName} {cc : ByteArray} {maxL : Nat} {ret : Option FieldType} {fr lo mc ms : Nat} {As : List Value} {σ : Mem} {Qm : Option Value → Mem → Prop} {Em : String → Mem → Prop} (hl : l.stackTraces = false) (hy : plainName y.cls = true) (hn : (lg_sl As).length ≤ maxL) (lv : List (Option Value)) (hlv : lvl lv = lv_args 0 As)
    (body : ∀ K : Fr, Bd K cc y.cls maxL ret fr lo mc ms Qm Em → fX K = x → fL K = l → Go K 0 0 σ 0 lv []) : MetG l x y cc maxL ret fr lo mc ms As σ Qm Em := by
  refine vx_ofW (cc := cc) (maxL := maxL) (ret := ret) hy rfl ?_
  intro p e s m args below meth c s₁ B hml hex hv
  obtain ⟨rfl, hC, hD, hK, hS, hb⟩ := hv
  have hts := atoms_spec (ws := Cond.code y cc maxL ret :: lw_good) B.pre
  have K1 := body (p, l, e, (headSpec (Cond.code y cc maxL ret :: lw_good) ({ frames := fr, cells := mc, slots := ms, locals := lo } : Room)).room, s, m, As.toArray, below, meth, c, x, maxL, vx_MQ below (QN x Qm) (QX x Em) As.toArray s mc ms (XA x))
    ⟨⟨B.exec, B.bytes, hml, findClass_of_methodNamed B.named, fun w hw => hts w (List.mem_cons_of_mem _ hw), hK, hS, hb, B.notSynchronized, hl, rfl⟩, rfl, B.returns, ⟨_, _, rfl, fun v σ' t hq hC hD hF => ⟨⟨v, σ', rfl, hq, hC, hD⟩, hF⟩, fun E σ' t hq hC hD hF => ⟨⟨σ', hq, hC, hD⟩, hF⟩⟩, Or.inl hex⟩ rfl rfl
  rw [lg_entry_eq]
  exact K1 s.heap [] _ hC hD va_S.rf ((lv_entry As hn).1 |> fun _ => Lh.of (lv_entry As hn) hlv)
section BD
variable {K : Fr} {cells slots : Nat} {σ : Mem} {cc : ByteArray} {own : String} {nL pc fr lo mc ms : Nat} {ret : Option FieldType} {Qm : Option Value → Mem → Prop} {Em : String → Mem → Prop} {lv : List (Option Value)} {st : List Value}
theorem bd_wd {H : Heap} {locs : List Loc} {σ : Mem} {cc : ByteArray} {own : String} {nL : Nat} (F : Fx K cc own nL) (hC : Cells (fX K) σ H) (hD : Dis (fX K) σ) (hS : va_S (XA (fX K)) (fS K).heap H locs) {t : State} (ht : t.heap = H) (hW : (fS K).WarmedH t.vm) : Wd (fX K) σ t :=
  ⟨by rw [ht]; exact hC, hD, F.k.moved hW.alike, by rw [ht]; exact (F.s.moved hW).kept (fun a h1 h2 => hS.2.1 a h1 h2), by rw [ht]; exact Nat.le_trans F.h hS.1⟩
theorem bd_qn {H : Heap} {locs : List Loc} {σ : Mem} {cc : ByteArray} {own : String} {nL : Nat} (F : Fx K cc own nL) (hC : Cells (fX K) σ H) (hD : Dis (fX K) σ) (hS : va_S (XA (fX K)) (fS K).heap H locs) {r : Option Value} (hq : Qm r σ) : ∀ t : State, t.heap = H → (fS K).WarmedH t.vm → QN (fX K) Qm (fA K) (fS K) (.returned r) t :=
  fun _ ht _ => ⟨⟨r, σ, rfl, hq, by rw [ht]; exact hC, hD⟩, hS.F ht⟩
theorem g_iret (B : Bd K cc own nL ret fr lo mc ms Qm Em) {ty : FieldType} (hr : ret = some ty) {v : Int32} (hn : narrow ty (.int v) = .int v) (hc : cells ≤ mc) (hs : slots ≤ ms) (hdg : decode cc pc = .ok (.ireturn, 1)) (hq : Qm (some (.int v)) σ) : Go K cells slots σ pc lv [.int v] := by
  intro H locs ls hC hD hS hL
  obtain ⟨QN9, QX9, eQ9, hN9, hX9⟩ := B.2.2.2.1
  rw [eQ9]
  exact W.widen hc hs (vx_ret (W.zret B.1.x B.1.b (B.2.2.1.trans hr) hn (fun t ht _ => hN9 _ _ t hq (by rw [ht]; exact hC) hD (hS.F ht)) hS.2.2 hdg B.1.lk))
theorem g_vret (B : Bd K cc own nL ret fr lo mc ms Qm Em) (hr : ret = none) (hc : cells ≤ mc) (hs : slots ≤ ms) (hdg : decode cc pc = .ok (.return_, 1)) (hq : Qm none σ) : Go K cells slots σ pc lv [] := by
  intro H locs ls hC hD hS hL
  obtain ⟨QN9, QX9, eQ9, hN9, hX9⟩ := B.2.2.2.1
  rw [eQ9]
  exact W.widen hc hs (vx_ret (W.vret B.1.x B.1.b (B.2.2.1.trans hr) (fun t ht _ => hN9 _ _ t hq (by rw [ht]; exact hC) hD (hS.F ht)) hS.2.2 hdg B.1.lk))
theorem g_aret (B : Bd K cc own nL ret fr lo mc ms Qm Em) {rt : FieldType} (hr : ret = some rt) (hrt : (∃ n, rt = .object n) ∨ ∃ t, rt = .array t) {v : Value} (hv : v = .null ∨ ∃ a, v = .ref a) (hc : cells ≤ mc) (hs : slots ≤ ms) (hdg : decode cc pc = .ok (.areturn, 1)) (hq : Qm (some v) σ) : Go K cells slots σ pc lv [v] := by
  intro H locs ls hC hD hS hL
  obtain ⟨QN9, QX9, eQ9, hN9, hX9⟩ := B.2.2.2.1
  rw [eQ9]
  exact W.widen hc hs (vx_ret (W.aret B.1.x B.1.b (B.2.2.1.trans hr) hrt hv (fun t ht _ => hN9 _ _ t hq (by rw [ht]; exact hC) hD (hS.F ht)) hS.2.2 hdg B.1.lk))
theorem g_dret (B : Bd K cc own nL ret fr lo mc ms Qm Em) (hr : ret = some .double) {v : UInt64} (hc : cells ≤ mc) (hs : slots ≤ ms) (hdg : decode cc pc = .ok (.dreturn, 1)) (hq : Qm (some (.double v)) σ) : Go K cells slots σ pc lv [.double v] := by
  intro H locs ls hC hD hS hL
  obtain ⟨QN9, QX9, eQ9, hN9, hX9⟩ := B.2.2.2.1
  rw [eQ9]
  exact W.widen hc hs (vx_ret (W.dret B.1.x B.1.b (B.2.2.1.trans hr) (fun t ht _ => hN9 _ _ t hq (by rw [ht]; exact hC) hD (hS.F ht)) hS.2.2 hdg B.1.lk))
theorem g_fret (B : Bd K cc own nL ret fr lo mc ms Qm Em) (hr : ret = some .float) {v : UInt32} (hc : cells ≤ mc) (hs : slots ≤ ms) (hdg : decode cc pc = .ok (.freturn, 1)) (hq : Qm (some (.float v)) σ) : Go K cells slots σ pc lv [.float v] := by
  intro H locs ls hC hD hS hL
  obtain ⟨QN9, QX9, eQ9, hN9, hX9⟩ := B.2.2.2.1
  rw [eQ9]
  exact W.widen hc hs (vx_ret (W.fret B.1.x B.1.b (B.2.2.1.trans hr) (fun t ht _ => hN9 _ _ t hq (by rw [ht]; exact hC) hD (hS.F ht)) hS.2.2 hdg B.1.lk))
/-- what a call comes to, whatever its kind -/
theorem g_ran (B : Bd K cc own nL ret fr lo mc ms Qm Em) {mc' ms' : Nat} {Qm' : Option Value → Mem → Prop} {Em' : String → Mem → Prop} {a : Array Value} {st0 : List Value}
    (hr : ∀ (H : Heap) (locs : List Loc) (ls : Array Slot), Cells (fX K) σ H → Dis (fX K) σ → va_S (XA (fX K)) (fS K).heap H locs → Lh ls (fN K) lv →
      vx_Run (fP K) (fL K) (fE K) (fR K) (fS K) (fM K) (fA K) (fB K) (fMe K) (fC K) H locs cells slots mc' ms' (F0 (fM K) pc ls st0) st (QN (fX K) Qm' a) (QX (fX K) Em') (XA (fX K)))
    (hc : cells + mc' ≤ mc) (hs : slots + ms' ≤ ms) (hE : ∀ E σ', Em' E σ' → Em E σ')
    {np : Nat} (hp : pc + 3 = np) (kk : ∀ (r : Option Value) (σ' : Mem), Qm' r σ' → Go K (cells + mc') (slots + ms') σ' np lv (r.toList ++ st)) : Go K cells slots σ pc lv st0 := by
  subst hp
  intro H locs ls hC hD hS hL T hT X
  rcases hr H locs ls hC hD hS hL T hT X with ⟨v, st₀, t, T', L, h0, X', hfl, e1, e2, ⟨⟨r, σ', hv, hq, hw⟩, hz⟩, hgo⟩ | ⟨q, st₀, t, T', L, E, ce, h0, X', hfl, e1, e2, ⟨⟨σ', hq, hw⟩, hz⟩, hce, hcv, hcl, hgo⟩
  · cases hv
    have hS' : va_S (XA (fX K)) (fS K).heap T'.heap (locs ++ L) := by
      refine ⟨?_, ?_, ?_⟩
      · rw [e1]
        exact Nat.le_trans hS.1 (by have := hz.1; rw [h0] at this; exact this)
      · intro q h1 h2
        rw [e1]
        have h3 := hz.2 q (by rw [h0]; exact Nat.lt_of_lt_of_le h1 hS.1) h2
        rw [h3, h0]
        exact hS.2.1 q h1 h2
      · intro z hzz
        rcases List.mem_append.mp hzz with h | h
        · exact hS.2.2 z h
        · exact hfl z h
    have hC' : Cells (fX K) σ' T'.heap := by rw [e1]; exact hw.1
    obtain ⟨t2, a1, b1⟩ := kk v σ' hq T'.heap (locs ++ L) ls hC' hw.2 hS' hL T' rfl X'
    exact ⟨t2, hgo t2 a1, b1⟩
  · have hS' : va_S (XA (fX K)) (fS K).heap T'.heap (locs ++ L) := by
      refine ⟨?_, ?_, ?_⟩
      · rw [e1]
        exact Nat.le_trans hS.1 (by have := hz.1; rw [h0] at this; exact this)
      · intro q h1 h2
        rw [e1]
        have h3 := hz.2 q (by rw [h0]; exact Nat.lt_of_lt_of_le h1 hS.1) h2
        rw [h3, h0]
        exact hS.2.1 q h1 h2
      · intro z hzz
        rcases List.mem_append.mp hzz with h | h
        · exact hS.2.2 z h
        · exact hfl z h
    have hC' : Cells (fX K) σ' T'.heap := by rw [e1]; exact hw.1
    have K2 : vx_W (fP K) (fL K) (fE K) (fR K) (fS K) (fM K) (fA K) (fB K) (fMe K) (fC K) T'.heap (locs ++ L) (cells + mc') (slots + ms') (fQ K) (F0 (fM K) pc ls st) q := by
      obtain ⟨QN9, QX9, eQ9, hN9, hX9⟩ := B.2.2.2.1
      rw [eQ9]
      exact vx_out (mc := mc) (ms := ms) (fun z hz => absurd (B.nh (hE _ _ hq) z hz) id) B.1.lk (by rw [e1]; exact hce) hcv hcl (fun t9 ht9 _ => hX9 _ _ t9 (hE _ _ hq) (by rw [ht9]; exact hC') hw.2 (hS'.F ht9)) hS'.2.2 hc hs
    obtain ⟨t2, a1, b1⟩ := K2 T' rfl X'
    exact ⟨t2, hgo.trans a1, b1⟩
/-- a call of an instance method of a world's object -/
theorem g_callV (B : Bd K cc own nL ret fr lo mc ms Qm Em) (f k : Nat) (hk : k < oCnt (fX K) f) {b : Nat} (hb : adr (fX K) σ f k = b) {ci : Nat} {fs : List Value} (he : el (fX K) σ f k = .inr (ci, fs)) {C : String} {T : u_T} {N i n : Nat} (hcl : vwCl[ci]? = some (C, T, N))
    {y' : MethodName} {cc' : ByteArray} {maxL' fr' lo' mc' ms' : Nat} {ret' : Option FieldType} {As : List Value} {Qm' : Option Value → Mem → Prop} {Em' : String → Mem → Prop} (hM : MetG (fL K) (fX K) y' cc' maxL' ret' fr' lo' mc' ms' (.ref b :: As) σ Qm' Em')
    (hcode : Cond.code y' cc' maxL' ret' ∈ lw_good) (hlink : Cond.methodLink own i y' ∈ lw_good) (hinst : Cond.instanceMethod y' ∈ lw_good) (hsel : Cond.selects C y' y' ∈ lw_good) (hini : Cond.initialized C ∈ lw_good)
    (hd : y'.cls = C ∧ y'.cls ≠ "java/lang/invoke/MethodHandle" ∧ y'.cls ≠ "java/lang/invoke/VarHandle" ∧ (parseMethodDescriptor y'.desc).map (fun d => d.parameters.length) = some n) (hn : As.length = n) (hfr : fr' + 1 ≤ fr) (hlo : 8 + (maxL' + 11) + lo' ≤ lo) (hst : (st.map fun v => v.category).sum ≤ 8) (hdg : decode cc pc = .ok (.invokevirtual i, 3))
    (hc : cells + mc' ≤ mc) (hs : slots + ms' ≤ ms) (hE : ∀ E σ', Em' E σ' → Em E σ')
    {np : Nat} (hp : pc + 3 = np) (kk : ∀ (r : Option Value) (σ' : Mem), Qm' r σ' → Go K (cells + mc') (slots + ms') σ' np lv (r.toList ++ st)) : Go K cells slots σ pc lv (As.reverse ++ .ref b :: st) := by
  subst hp
  refine g_ran B (a := (Value.ref b :: As).toArray) (fun H locs ls hC hD hS hL => ?_) hc hs hE rfl kk
  subst hb
  have hP : va_P (xD (fX K)) vwCl [(adr (fX K) σ f k, .inr (ci, fs))] H := by
    intro j q hq
    match j, hq with
    | 0, hq => cases hq; rw [← he]; exact hC f k hk
    | j + 1, hq => simp at hq
  have F := B.1
  have hT : GoodIn lw_good (wsV own i C y' (Cond.code y' cc' maxL' ret' :: lw_good)) := by
    intro w hw
    have h2 : w ∈ lw_good := by
      unfold wsV at hw
      simp only [List.cons_append, List.nil_append, List.mem_cons] at hw
      rcases hw with e | e | e | e | e | e
      · rw [e]; exact hlink
      · rw [e]; exact hinst
      · rw [e]; exact hsel
      · rw [e]; exact hini
      · rw [e]; exact hcode
      · exact e
    exact ⟨h2, good_of_word (List.mem_filter.mp h2).2⟩
  have hfx : CallFix (fP K) (fM K) (fC K) cc nL (fS K) (fA K) lw_good own := ⟨F.x, F.b, F.ml.trans F.n, F.o, F.w⟩
  exact vx_runV hfx hM (cwV n F.w hT rfl rfl rfl hd ⟨by rw [B.2.1]; exact hfr, by rw [B.2.1]; exact hlo⟩)
    ⟨fun a U g mk q => ⟨q.1, q.2.moved (State.WarmedH.refl U) rfl⟩, va_recv (q0 := 0) F.k hP hcl rfl, fun U hU hW => ⟨rfl, bd_wd F hC hD hS hU hW⟩⟩ rfl hn (hL.1.trans F.n) rfl (lv_room hst) hdg (by rw [B.2.1]; exact ⟨hc, hs⟩)
/-- a call of a static method of the own class -/
theorem g_callS (B : Bd K cc own nL ret fr lo mc ms Qm Em) {i n : Nat}
    {y' : MethodName} {cc' : ByteArray} {maxL' fr' lo' mc' ms' : Nat} {ret' : Option FieldType} {As : List Value} {Qm' : Option Value → Mem → Prop} {Em' : String → Mem → Prop} (hM : MetG (fL K) (fX K) y' cc' maxL' ret' fr' lo' mc' ms' As σ Qm' Em')
    (hcode : Cond.code y' cc' maxL' ret' ∈ lw_good) (hlink : Cond.methodLink own i y' ∈ lw_good) (hstat : Cond.static y' ∈ lw_good) (hini : Cond.initialized y'.cls ∈ lw_good)
    (hd : y'.cls ≠ "java/lang/invoke/MethodHandle" ∧ y'.cls ≠ "java/lang/invoke/VarHandle" ∧ (parseMethodDescriptor y'.desc).map (fun d => d.parameters.length) = some n) (hn : As.length = n) (hfr : fr' + 1 ≤ fr) (hlo : 8 + (maxL' + 11) + lo' ≤ lo) (hst : (st.map fun v => v.category).sum ≤ 8) (hdg : decode cc pc = .ok (.invokestatic i, 3))
    (hc : cells + mc' ≤ mc) (hs : slots + ms' ≤ ms) (hE : ∀ E σ', Em' E σ' → Em E σ')
    {np : Nat} (hp : pc + 3 = np) (kk : ∀ (r : Option Value) (σ' : Mem), Qm' r σ' → Go K (cells + mc') (slots + ms') σ' np lv (r.toList ++ st)) : Go K cells slots σ pc lv (As.reverse ++ st) := by
  subst hp
  refine g_ran B (a := As.toArray) (fun H locs ls hC hD hS hL => ?_) hc hs hE rfl kk
  have F := B.1
  have hG : GoodIn lw_good (Cond.code y' cc' maxL' ret' :: lw_good) := by
    intro w hw
    have h2 : w ∈ lw_good := by
      rcases List.mem_cons.mp hw with e | e
      · rw [e]; exact hcode
      · exact e
    exact ⟨h2, good_of_word (List.mem_filter.mp h2).2⟩
  have hfx : CallFix (fP K) (fM K) (fC K) cc nL (fS K) (fA K) lw_good own := ⟨F.x, F.b, F.ml.trans F.n, F.o, F.w⟩
  exact vx_runS hfx hM ⟨callB_of n F.w hG rfl rfl rfl (F.w _ hini) (F.w _ hlink) hd ⟨by rw [B.2.1]; exact hfr, by rw [B.2.1]; exact hlo⟩, F.w _ hstat⟩
    ⟨fun a U g mk q => ⟨q.1, q.2.moved (State.WarmedH.refl U) rfl⟩, fun U hU hW => ⟨rfl, bd_wd F hC hD hS hU hW⟩⟩ rfl hn (hL.1.trans F.n) rfl (lv_room hst) hdg (by rw [B.2.1]; exact ⟨hc, hs⟩)
end BD
