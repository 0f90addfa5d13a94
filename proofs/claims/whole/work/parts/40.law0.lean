/-! THE LAW'S METHODS: calls in a try, longs and doubles, the script -/
abbrev eIA : String := "java/lang/IllegalArgumentException"
abbrev eIS : String := "java/lang/IllegalStateException"
abbrev eUO : String := "java/lang/UnsupportedOperationException"
abbrev eNE : String := "java/util/NoSuchElementException"
abbrev eIO : String := "java/lang/IndexOutOfBoundsException"
abbrev eAE : String := "java/lang/ArithmeticException"
def xcNames : List String := [eIA, eIS, eUO, eNE, eIO, eAE]
def NCs (U : State) : Prop := ∀ a ∈ xcNames, ∀ b ∈ xcNames, a ≠ b → va_Nc a b U
theorem NCs.moved {u U : State} (hvm : u.vm.Alike U.vm) (h : NCs u) : NCs U := fun a ha b hb hn => (h a ha b hb hn).moved hvm
def wrL (σ : Mem) (v : Int64) : Mem := (σ.1, σ.2.1, σ.2.2.1, vp_updL σ.2.2.2.1 0 v, σ.2.2.2.2)
def wrD (σ : Mem) (v : UInt64) : Mem := (σ.1, σ.2.1, σ.2.2.1, σ.2.2.2.1, vf_upd σ.2.2.2.2 0 v)
def rdL (σ : Mem) : Int64 := σ.2.2.2.1 0
def rdD (σ : Mem) : UInt64 := σ.2.2.2.2 0
theorem rd_wrL (σ : Mem) (v : Int64) (f k s : Nat) : rd (wrL σ v) f k s = rd σ f k s := rfl
theorem rd_wrD (σ : Mem) (v : UInt64) (f k s : Nat) : rd (wrD σ v) f k s = rd σ f k s := rfl
theorem el_wrL_ne {x : Ctx} {σ : Mem} {v : Int64} {f k : Nat} (h : ¬ (f = 17 ∧ k = 0)) (hk : k < oCnt f) : el x (wrL σ v) f k = el x σ f k := by
  unfold el
  split
  all_goals first
    | rfl
    | (exfalso; exact h ⟨rfl, by have : k < 1 := hk; omega⟩)
theorem el_wrD_ne {x : Ctx} {σ : Mem} {v : UInt64} {f k : Nat} (h : ¬ (f = 18 ∧ k = 0)) (hk : k < oCnt f) : el x (wrD σ v) f k = el x σ f k := by
  have hf := oCnt_lt hk
  rcases Nat.lt_or_ge f 18 with g | g
  · match f, g with
    | 0, _ => rfl
    | 1, _ => rfl
    | 2, _ => rfl
    | 3, _ => rfl
    | 4, _ => rfl
    | 5, _ => rfl
    | 6, _ => rfl
    | 7, _ => rfl
    | 8, _ => rfl
    | 9, _ => rfl
    | 10, _ => rfl
    | 11, _ => rfl
    | 12, _ => rfl
    | 13, _ => rfl
    | 14, _ => rfl
    | 15, _ => rfl
    | 16, _ => rfl
    | 17, _ => rfl
    | _ + 18, g => exact absurd g (by omega)
  · have h18 : f = 18 := by omega
    subst h18
    exact absurd ⟨rfl, by have : k < 1 := hk; omega⟩ h
/-- cells_set, where the other elements are only those that there are -/
theorem cells_set2 {x : Ctx} {σ σ' : Mem} {f k q0 : Nat} {H1 : Heap} (hD : Dis x σ) (hk : k < oCnt f) (hq : (WS x σ)[q0]? = some (adr x σ f k, el x σ f k)) {e : va_E} (h : va_P (xD x) vwCl ((WS x σ).set q0 (adr x σ f k, e)) H1) (he : el x σ' f k = e)
    (hn : ∀ f' k', k' < oCnt f' → ¬ (f' = f ∧ k' = k) → el x σ' f' k' = el x σ f' k') (ha : ∀ f' k', adr x σ' f' k' = adr x σ f' k') : Cells x σ' H1 := by
  intro f' k' hk'
  rw [ha]
  by_cases hc : f' = f ∧ k' = k
  · obtain ⟨rfl, rfl⟩ := hc
    rw [he]
    exact h q0 _ (List.getElem?_set_self (List.getElem?_eq_some_iff.mp hq).1)
  · rw [hn f' k' hk' hc]
    obtain ⟨j, hj⟩ := ws_at x σ hk'
    refine h j _ ?_
    rw [List.getElem?_set_ne ?_]
    · exact hj
    · intro e0
      subst e0
      have := hq.symm.trans hj
      have h1 : adr x σ f k = adr x σ f' k' := congrArg Prod.fst (Option.some.inj this)
      obtain ⟨e1, e2⟩ := hD.1 f k f' k' hk hk' h1
      exact hc ⟨e1.symm, e2.symm⟩
theorem vx_met {l : Launch} {y : MethodName} {ws : List Cond} {rm : Room} {Pc : Array Value → State → Prop} {Qc : Array Value → State → Outcome → State → Prop} {mc ms : Nat} {free : Addr → Prop} (h : vx_Met l y ws rm Pc Qc (fun _ _ _ => False) mc ms free) : Met l y ws rm Pc Qc mc ms free := by
  intro p e ha hc hk s m args below hf happ hP hK
  obtain ⟨n, o, h1, h2, h3, h4⟩ := h p e ha hc hk s m args below hf happ hP hK
  refine ⟨n, o, h1, h2, h3, ?_⟩
  rcases h4 with h4 | ⟨q, -, E, ce, L, hx, -⟩
  · exact h4
  · exact absurd hx id
def MetH (l : Launch) (x : Ctx) (y : MethodName) (cc : ByteArray) (maxL : Nat) (hh : List (Nat × Nat × Nat × Nat)) (fr lo mc ms : Nat) (As : List Value) (σ : Mem) (Qm : Option Value → Mem → Prop) : Prop :=
  Met l y (Cond.codeWith y cc maxL (some .int) hh :: lw_good) ({ frames := fr, cells := mc, slots := ms, locals := lo }) (va_Pc As (fun U => Wd x σ U ∧ NCs U)) (QN x Qm) mc ms (XA x)
def BdH (K : Fr) (cc : ByteArray) (own : String) (nL fr lo mc ms : Nat) (Qm : Option Value → Mem → Prop) (hh : List (Nat × Nat × Nat × Nat)) : Prop :=
  Fx K cc own nL ∧ fR K = ({ frames := fr, cells := mc, slots := ms, locals := lo } : Room) ∧ (fMe K).sig.returnType = some .int ∧ fQ K = vx_MQ (fB K) (QN (fX K) Qm) (fun _ _ _ => False) (fA K) (fS K) mc ms (XA (fX K)) ∧ (fC K).exceptionTable.toList = tableOf hh ∧ NCs (fS K)
theorem MetH.of {l : Launch} {x : Ctx} {y : MethodName} {cc : ByteArray} {maxL : Nat} {hh : List (Nat × Nat × Nat × Nat)} {fr lo mc ms : Nat} {As : List Value} {σ : Mem} {Qm : Option Value → Mem → Prop} (hl : l.stackTraces = false) (hy : plainName y.cls = true) (hn : (lg_sl As).length ≤ maxL) (lv : List (Option Value)) (hlv : lvl lv = lv_args 0 As)
    (body : ∀ K : Fr, BdH K cc y.cls maxL fr lo mc ms Qm hh → fX K = x → fL K = l → Go K 0 0 σ 0 lv []) : MetH l x y cc maxL hh fr lo mc ms As σ Qm := by
  refine vx_met (vx_ofWH (cc := cc) (maxL := maxL) (ret := some .int) (hh := hh) hy rfl ?_)
  intro p e s m args below meth c s₁ B hml hv
  obtain ⟨rfl, ⟨hC, hD, hK, hS, hb⟩, hnc⟩ := hv
  have hts := atoms_spec (ws := Cond.codeWith y cc maxL (some .int) hh :: lw_good) B.pre
  have K1 := body (p, l, e, (headSpec (Cond.codeWith y cc maxL (some .int) hh :: lw_good) ({ frames := fr, cells := mc, slots := ms, locals := lo } : Room)).room, s, m, As.toArray, below, meth, c, x, maxL, vx_MQ below (QN x Qm) (fun _ _ _ => False) As.toArray s mc ms (XA x))
    ⟨⟨B.exec, B.bytes, hml, findClass_of_methodNamed B.named, fun w hw => hts w (List.mem_cons_of_mem _ hw), hK, hS, hb, B.notSynchronized, hl, rfl⟩, rfl, B.returns, rfl, vx_table (x := y) B (hts _ List.mem_cons_self), hnc⟩ rfl rfl
  rw [lg_entry_eq]
  exact K1 s.heap [] _ hC hD va_S.rf ((lv_entry As hn).1 |> fun _ => Lh.of (lv_entry As hn) hlv)
section LH
variable {K : Fr} {cells slots : Nat} {σ : Mem} {cc : ByteArray} {own : String} {nL pc fr lo mc ms : Nat} {Qm : Option Value → Mem → Prop} {hh : List (Nat × Nat × Nat × Nat)} {lv lv' : List (Option Value)} {st : List Value}
theorem g_i2l (F : Fx K cc own nL) {a : Int32} (hdg : decode cc pc = .ok (.i2l, 1)) {np : Nat} (hp : pc + 1 = np) (kk : Go K cells slots σ np lv (.long a.toInt64 :: st)) : Go K cells slots σ pc lv (.int a :: st) := by
  subst hp
  exact fun H locs ls hC hD hS hL => lv_i2l F.x F.b hdg rfl (kk H locs ls hC hD hS hL)
theorem g_lconst (F : Fx K cc own nL) {n : Fin 2} {v : Int64} (hdg : decode cc pc = .ok (.lconst n, 1)) (hv : Int64.ofNat (n : Nat) = v) {np : Nat} (hp : pc + 1 = np) (kk : Go K cells slots σ np lv (.long v :: st)) : Go K cells slots σ pc lv st := by
  subst hp
  exact fun H locs ls hC hD hS hL => lv_lconst F.x F.b hdg hv (kk H locs ls hC hD hS hL)
theorem g_lcmp (F : Fx K cc own nL) {a b : Int64} (hdg : decode cc pc = .ok (.lcmp, 1)) {np : Nat} (hp : pc + 1 = np) (kk : Go K cells slots σ np lv (.int (lg_cmp a b) :: st)) : Go K cells slots σ pc lv (.long b :: .long a :: st) := by
  subst hp
  exact fun H locs ls hC hD hS hL => W.lcmp F.x F.b hdg (kk H locs ls hC hD hS hL)
theorem g_f2d (F : Fx K cc own nL) {a : UInt32} (hne : vf_n64 (FP.f2d a)) (hdg : decode cc pc = .ok (.f2d, 1)) {np : Nat} (hp : pc + 1 = np) (kk : Go K cells slots σ np lv (.double (FP.f2d a) :: st)) : Go K cells slots σ pc lv (.float a :: st) := by
  subst hp
  exact fun H locs ls hC hD hS hL => lv_f2d F.x F.b hdg hne (kk H locs ls hC hD hS hL)
theorem g_dcmp (F : Fx K cc own nL) {a b : UInt64} {op : CmpOp} (hdg : decode cc pc = .ok (.dcmp op, 1)) {np : Nat} (hp : pc + 1 = np) (kk : Go K cells slots σ np lv (.int (Op.cmpValue (FP.dcmp a b) op) :: st)) : Go K cells slots σ pc lv (.double b :: .double a :: st) := by
  subst hp
  exact fun H locs ls hC hD hS hL => lv_dcmp F.x F.b hdg (kk H locs ls hC hD hS hL)
theorem g_fcmp (F : Fx K cc own nL) {a b : UInt32} {op : CmpOp} (hdg : decode cc pc = .ok (.fcmp op, 1)) {np : Nat} (hp : pc + 1 = np) (kk : Go K cells slots σ np lv (.int (Op.cmpValue (FP.fcmp a b) op) :: st)) : Go K cells slots σ pc lv (.float b :: .float a :: st) := by
  subst hp
  exact fun H locs ls hC hD hS hL => lv_fcmp F.x F.b hdg (kk H locs ls hC hD hS hL)
theorem g_dload (F : Fx K cc own nL) {k : Nat} {v : UInt64} (hdg : decode cc pc = .ok (.dload k, 2)) (hl : lv[k]? = some (some (.double v))) {np : Nat} (hp : pc + 2 = np) (kk : Go K cells slots σ np lv (.double v :: st)) : Go K cells slots σ pc lv st := by
  subst hp
  exact fun H locs ls hC hD hS hL => lv_dload F.x F.b hdg (hL.2.2 _ _ hl) (kk H locs ls hC hD hS hL)
theorem g_fload (F : Fx K cc own nL) {k : Nat} {v : UInt32} (hdg : decode cc pc = .ok (.fload k, 2)) (hl : lv[k]? = some (some (.float v))) {np : Nat} (hp : pc + 2 = np) (kk : Go K cells slots σ np lv (.float v :: st)) : Go K cells slots σ pc lv st := by
  subst hp
  exact fun H locs ls hC hD hS hL => lv_fload F.x F.b hdg (hL.2.2 _ _ hl) (kk H locs ls hC hD hS hL)
theorem g_fstore (F : Fx K cc own nL) {k : Nat} {v : UInt32} (hdg : decode cc pc = .ok (.fstore k, 2)) (hn : k < nL) (hc : lvc lv k = true) (hl : lv.set k (some (.float v)) = lv') {np : Nat} (hp : pc + 2 = np) (kk : Go K cells slots σ np lv' st) : Go K cells slots σ pc lv (.float v :: st) := by
  subst hp
  exact fun H locs ls hC hD hS hL => lv_fstore F.x F.b hdg hL.has (by rw [F.n]; exact hn) rfl (fun ls2 hL2 => kk H locs ls2 hC hD hS (Lh.put hc hl hL2))
theorem Lh.put2 {ls' : Array Slot} {nL i : Nat} {lv lv' : List (Option Value)} {v : Value} (hc : lvc lv i = true) (hl : (lv.set i (some v)).set (i + 1) none = lv')
    (h : lv_has ls' nL ((i, v) :: (lvl lv).filter (fun q => !(q.1 == i) && (!(q.1 == i + 1) && !(q.1 + 1 == i && q.2.category == 2))))) : Lh ls' nL lv' := by
  subst hl
  refine ⟨h.1, h.2.1, fun j w hw => ?_⟩
  by_cases hj1 : i + 1 = j
  · subst hj1
    have : ((lv.set i (some v)).set (i + 1) none)[i + 1]? = some none ∨ ((lv.set i (some v)).set (i + 1) none)[i + 1]? = none := by
      rcases Nat.lt_or_ge (i + 1) (lv.set i (some v)).length with g | g
      · exact Or.inl (List.getElem?_set_self g)
      · exact Or.inr (by rw [List.getElem?_eq_none]; simpa using g)
    rcases this with e | e <;> rw [e] at hw <;> cases hw
  rw [List.getElem?_set_ne hj1] at hw
  by_cases hj : i = j
  · subst hj
    have hlt : i < lv.length := by
      have := (List.getElem?_eq_some_iff.mp hw).1
      simpa using this
    rw [List.getElem?_set_self hlt] at hw
    cases hw
    exact h.2.2 (i, v) List.mem_cons_self
  · rw [List.getElem?_set_ne hj] at hw
    refine h.2.2 (j, w) (List.mem_cons_of_mem _ (List.mem_filter.mpr ⟨lvl_mem.mpr hw, ?_⟩))
    have h1 : (j == i) = false := by simpa using fun e => hj e.symm
    have h3 : (j == i + 1) = false := by simpa using fun e => hj1 e.symm
    rw [h1, h3]
    by_cases h2 : j + 1 = i
    · subst h2
      have : (w.category == 1) = true := by
        have := hc
        simp only [lvc, hw] at this
        exact this
      have hw1 : w.category = 1 := by simpa using this
      rw [hw1]
      simp
    · have : (j + 1 == i) = false := by simpa using h2
      rw [this]
      rfl
theorem g_dstore (F : Fx K cc own nL) {k : Nat} {v : UInt64} (hdg : decode cc pc = .ok (.dstore k, 2)) (hn : k + 1 < nL) (hc : lvc lv k = true) (hl : (lv.set k (some (.double v))).set (k + 1) none = lv') {np : Nat} (hp : pc + 2 = np) (kk : Go K cells slots σ np lv' st) : Go K cells slots σ pc lv (.double v :: st) := by
  subst hp
  exact fun H locs ls hC hD hS hL => lv_dstore F.x F.b hdg hL.has (by rw [F.n]; exact hn) rfl (fun ls2 hL2 => kk H locs ls2 hC hD hS (Lh.put2 hc hl hL2))
theorem g_lald (F : Fx K cc own nL) (hdg : decode cc pc = .ok (.laload, 1)) {np : Nat} (hp : pc + 1 = np) (kk : Go K cells slots σ np lv (.long (rdL σ) :: st)) : Go K cells slots σ pc lv (.int 0 :: .ref (xad (fX K) 17 0) :: st) := by
  subst hp
  intro H locs ls hC hD hS hL
  have hP : va_P (xD (fX K)) vwCl [(xad (fX K) 17 0, .inl (xct (fX K) 1, 1, .inr (.inl σ.2.2.2.1)))] H := by
    intro j q hq
    match j, hq with
    | 0, hq => cases hq; exact hC 17 0 (by decide)
    | j + 1, hq => simp at hq
  exact va_lald F.x F.b F.k hP 0 1 rfl rfl (vpl (by decide)) hdg (kk H locs ls hC hD hS hL)
theorem g_last (F : Fx K cc own nL) {v : Int64} (hdg : decode cc pc = .ok (.lastore, 1)) {np : Nat} (hp : pc + 1 = np) (kk : Go K cells slots (wrL σ v) np lv st) : Go K cells slots σ pc lv (.long v :: .int 0 :: .ref (xad (fX K) 17 0) :: st) := by
  subst hp
  intro H locs ls hC hD hS hL
  obtain ⟨q0, hq0⟩ := ws_at (fX K) σ (f := 17) (k := 0) (by decide)
  refine va_last F.x F.b F.k (ws_P hC) (ws_D hD) hS q0 1 (hq0.trans rfl) rfl (vpl (by decide)) hdg (fun H1 locs1 hP1 _ hS1 => ?_)
  exact kk H1 locs1 ls (cells_set2 hD (f := 17) (k := 0) (by decide) hq0 hP1 rfl (fun f' k' hk' hne => el_wrL_ne hne hk') (fun f' k' => rfl)) (hD.same (fun f' k' => rfl)) hS1 hL
theorem g_dald (F : Fx K cc own nL) (hdg : decode cc pc = .ok (.daload, 1)) {np : Nat} (hp : pc + 1 = np) (kk : Go K cells slots σ np lv (.double (rdD σ) :: st)) : Go K cells slots σ pc lv (.int 0 :: .ref (xad (fX K) 18 0) :: st) := by
  subst hp
  intro H locs ls hC hD hS hL
  have hP : va_P (xD (fX K)) vwCl [(xad (fX K) 18 0, .inl (xct (fX K) 2, 1, .inr (.inr (.inr (.inl σ.2.2.2.2)))))] H := by
    intro j q hq
    match j, hq with
    | 0, hq => cases hq; exact hC 18 0 (by decide)
    | j + 1, hq => simp at hq
  exact va_dald F.x F.b F.k hP 0 2 rfl rfl (vpl (by decide)) hdg (kk H locs ls hC hD hS hL)
theorem g_dast (F : Fx K cc own nL) {v : UInt64} (hdg : decode cc pc = .ok (.dastore, 1)) {np : Nat} (hp : pc + 1 = np) (kk : Go K cells slots (wrD σ v) np lv st) : Go K cells slots σ pc lv (.double v :: .int 0 :: .ref (xad (fX K) 18 0) :: st) := by
  subst hp
  intro H locs ls hC hD hS hL
  obtain ⟨q0, hq0⟩ := ws_at (fX K) σ (f := 18) (k := 0) (by decide)
  refine va_dast F.x F.b F.k (ws_P hC) (ws_D hD) hS q0 2 (hq0.trans rfl) rfl (vpl (by decide)) hdg (fun H1 locs1 hP1 _ hS1 => ?_)
  exact kk H1 locs1 ls (cells_set2 hD (f := 18) (k := 0) (by decide) hq0 hP1 rfl (fun f' k' hk' hne => el_wrD_ne hne hk') (fun f' k' => rfl)) (hD.same (fun f' k' => rfl)) hS1 hL
theorem g_iretH (B : BdH K cc own nL fr lo mc ms Qm hh) {v : Int32} (hc : cells ≤ mc) (hs : slots ≤ ms) (hdg : decode cc pc = .ok (.ireturn, 1)) (hq : Qm (some (.int v)) σ) : Go K cells slots σ pc lv [.int v] := by
  intro H locs ls hC hD hS hL
  rw [B.2.2.2.1]
  exact W.widen hc hs (vx_ret (W.zret B.1.x B.1.b B.2.2.1 rfl (bd_qn B.1 hC hD hS hq) hS.2.2 hdg B.1.lk))
/-- a call in a try: it returns, or its exception is caught here -/
theorem g_callX (B : BdH K cc own nL fr lo mc ms Qm hh) {y' : MethodName} {i n : Nat}
    {cc' : ByteArray} {maxL' fr' lo' mc' ms' : Nat} {ret' : Option FieldType} {As : List Value} {Qm' : Option Value → Mem → Prop} {Em' : String → Mem → Prop} (hM : MetG (fL K) (fX K) y' cc' maxL' ret' fr' lo' mc' ms' (.ref (xad (fX K) 14 0) :: As) σ Qm' Em')
    (hcode : Cond.code y' cc' maxL' ret' ∈ lw_good) (hlink : Cond.methodLink own i y' ∈ lw_good) (hinst : Cond.instanceMethod y' ∈ lw_good) (hsel : Cond.selects "YarnMill" y' y' ∈ lw_good) (hini : Cond.initialized "YarnMill" ∈ lw_good)
    (hd : y'.cls = "YarnMill" ∧ y'.cls ≠ "java/lang/invoke/MethodHandle" ∧ y'.cls ≠ "java/lang/invoke/VarHandle" ∧ (parseMethodDescriptor y'.desc).map (fun d => d.parameters.length) = some n) (hn : As.length = n) (hfr : fr' + 1 ≤ fr) (hlo : 8 + (maxL' + 11) + lo' ≤ lo) (hst : (st.map fun v => v.category).sum ≤ 8) (hdg : decode cc pc = .ok (.invokevirtual i, 3))
    (hc : cells + mc' ≤ mc) (hs : slots + ms' ≤ ms)
    {np : Nat} (hp : pc + 3 = np) (kk : ∀ (r : Option Value) (σ' : Mem), Qm' r σ' → Go K (cells + mc') (slots + ms') σ' np lv (r.toList ++ st))
    (kx : ∀ (E : String) (σ' : Mem), Em' E σ' → ∃ (pre : List ExceptionTableEntry) (x : ExceptionTableEntry) (suf : List ExceptionTableEntry) (name : String), tableOf hh = pre ++ x :: suf ∧ (∀ z ∈ pre, covers z pc = false ∨ (z.catchType ≠ 0 ∧ ∃ nm : String, Cond.classLink own z.catchType nm ∈ lw_good ∧ va_Nc E nm (fS K))) ∧ covers x pc = true ∧ x.catchType ≠ 0 ∧ Cond.classLink own x.catchType name ∈ lw_good ∧ Cond.castable E name ∈ lw_tbl ∧ ∀ q : Nat, Go K (cells + mc') (slots + ms') σ' x.handlerPc lv [.ref q]) :
    Go K cells slots σ pc lv (As.reverse ++ .ref (xad (fX K) 14 0) :: st) := by
  subst hp
  intro H locs ls hC hD hS hL T hT X
  have F := B.1
  have hP : va_P (xD (fX K)) vwCl [(adr (fX K) σ 14 0, el (fX K) σ 14 0)] H := by
    intro j q hq
    match j, hq with
    | 0, hq => cases hq; exact hC 14 0 (by decide)
    | j + 1, hq => simp at hq
  have hT2 : GoodIn lw_good (wsV own i "YarnMill" y' (Cond.code y' cc' maxL' ret' :: lw_good)) := by
    intro w hw
    have h2 : w ∈ lw_good := by
      unfold wsV at hw
      simp only [List.cons_append, List.nil_append, List.mem_cons] at hw
      rcases hw with e | e | e | e | e | e
      · rw [e]; exact hlink
      · rw [e]; exact hinst
      · rw [e]; exact hsel
      · rw [e]; exact hini
      · rw [e]; exact hcode
      · exact e
    exact ⟨h2, good_of_word (List.mem_filter.mp h2).2⟩
  have hfx : CallFix (fP K) (fM K) (fC K) cc nL (fS K) (fA K) lw_good own := ⟨F.x, F.b, F.ml.trans F.n, F.o, F.w⟩
  have run : vx_Run (fP K) (fL K) (fE K) (fR K) (fS K) (fM K) (fA K) (fB K) (fMe K) (fC K) H locs cells slots mc' ms' (F0 (fM K) pc ls (As.reverse ++ .ref (xad (fX K) 14 0) :: st)) st (QN (fX K) Qm' (Value.ref (xad (fX K) 14 0) :: As).toArray) (QX (fX K) Em') (XA (fX K)) :=
    vx_runV hfx hM (cwV n F.w hT2 rfl rfl rfl hd ⟨by rw [B.2.1]; exact hfr, by rw [B.2.1]; exact hlo⟩)
      ⟨fun a U g mk q => ⟨q.1, q.2.moved (State.WarmedH.refl U) rfl⟩, va_recv (q0 := 0) (ci := 13) (q := (RX12, TX12, 13)) F.k hP rfl rfl, fun U hU hW => ⟨rfl, bd_wd F hC hD hS hU hW⟩⟩ rfl hn (hL.1.trans F.n) rfl (lv_room hst) hdg (by rw [B.2.1]; exact ⟨hc, hs⟩)
  rcases run T hT X with ⟨v, st₀, t, T', L, h0, X', hfl, e1, e2, ⟨⟨r, σ', hv, hq, hw⟩, hz⟩, hgo⟩ | ⟨q, st₀, t, T', L, E, ce, h0, X', hfl, e1, e2, ⟨⟨σ', hq, hw⟩, hz⟩, hce, hcv, hcl, hgo⟩
  · cases hv
    have hS' : va_S (XA (fX K)) (fS K).heap T'.heap (locs ++ L) := by
      refine ⟨?_, ?_, ?_⟩
      · rw [e1]
        exact Nat.le_trans hS.1 (by have := hz.1; rw [h0] at this; exact this)
      · intro q h1 h2
        rw [e1]
        have h3 := hz.2 q (by rw [h0]; exact Nat.lt_of_lt_of_le h1 hS.1) h2
        rw [h3, h0]
        exact hS.2.1 q h1 h2
      · intro z hzz
        rcases List.mem_append.mp hzz with h | h
        · exact hS.2.2 z h
        · exact hfl z h
    have hC' : Cells (fX K) σ' T'.heap := by rw [e1]; exact hw.1
    obtain ⟨t2, a1, b1⟩ := kk v σ' hq T'.heap (locs ++ L) ls hC' hw.2 hS' hL T' rfl X'
    exact ⟨t2, hgo t2 a1, b1⟩
  · have hS' : va_S (XA (fX K)) (fS K).heap T'.heap (locs ++ L) := by
      refine ⟨?_, ?_, ?_⟩
      · rw [e1]
        exact Nat.le_trans hS.1 (by have := hz.1; rw [h0] at this; exact this)
      · intro q h1 h2
        rw [e1]
        have h3 := hz.2 q (by rw [h0]; exact Nat.lt_of_lt_of_le h1 hS.1) h2
        rw [h3, h0]
        exact hS.2.1 q h1 h2
      · intro z hzz
        rcases List.mem_append.mp hzz with h | h
        · exact hS.2.2 z h
        · exact hfl z h
    have hC' : Cells (fX K) σ' T'.heap := by rw [e1]; exact hw.1
    obtain ⟨pre, x, suf, name, k1, k2, k3, k4, k5, k6, k7⟩ := kx E σ' hq
    have K2 : vx_W (fP K) (fL K) (fE K) (fR K) (fS K) (fM K) (fA K) (fB K) (fMe K) (fC K) T'.heap (locs ++ L) (cells + mc') (slots + ms') (fQ K) (F0 (fM K) pc ls st) q :=
      vx_catch F.o pre x suf (B.2.2.2.2.1.trans k1) (fun z hz => (k2 z hz).imp id (fun ⟨h1, nm, h2, h3⟩ => ⟨h1, nm, F.w _ h2, h3⟩)) k3 k4 (F.w _ k5) (va_Nw.use rfl (F.s.2.2.2.2.1 _ k6 rfl)) (by rw [e1]; exact hce) hcv hcl (k7 q T'.heap (locs ++ L) ls hC' hw.2 hS' hL)
    obtain ⟨t2, a1, b1⟩ := K2 T' rfl X'
    exact ⟨t2, hgo.trans a1, b1⟩
end LH
