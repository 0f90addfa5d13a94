/-! BUILDING THE WORLD: the cells from the base on, as a list -/
def csW (x : Ctx) (cs : List va_E) : va_W := cs.zipIdx.map fun q => (xb x + q.2, q.1)
theorem csW_at (x : Ctx) (cs : List va_E) (i : Nat) : (csW x cs)[i]? = cs[i]?.map fun e => (xb x + i, e) := by
  unfold csW
  rw [List.getElem?_map, List.getElem?_zipIdx]
  cases cs[i]? <;> simp
theorem csW_len (x : Ctx) (cs : List va_E) : (csW x cs).length = cs.length := by simp [csW]
theorem csW_app (x : Ctx) (cs : List va_E) (e : va_E) : csW x (cs ++ [e]) = csW x cs ++ [(xb x + cs.length, e)] := by
  unfold csW
  rw [List.zipIdx_append, List.map_append]
  simp
theorem csW_set (x : Ctx) (cs : List va_E) (i : Nat) (e : va_E) : csW x (cs.set i e) = (csW x cs).set i (xb x + i, e) := by
  refine List.ext_getElem? fun j => ?_
  rw [csW_at]
  by_cases hj : i = j
  · subst hj
    rcases Nat.lt_or_ge i cs.length with g | g
    · rw [List.getElem?_set_self g, List.getElem?_set_self (by rw [csW_len]; exact g)]
      rfl
    · rw [List.getElem?_eq_none (by simpa using g), List.getElem?_eq_none (by simpa [csW_len] using g)]
      rfl
  · rw [List.getElem?_set_ne hj, List.getElem?_set_ne hj, csW_at]
def Rg (x : Ctx) (cs : List va_E) (H : Heap) : Prop := H.size = xb x + cs.length ∧ va_P (xD x) vwCl (csW x cs) H
theorem rg_D (x : Ctx) (cs : List va_E) : va_D (XA x) (csW x cs) := by
  refine ⟨fun i j p q hi hj e => ?_, fun i q hi => ?_⟩
  · rw [csW_at] at hi hj
    obtain ⟨_, -, rfl⟩ := Option.map_eq_some_iff.mp hi
    obtain ⟨_, -, rfl⟩ := Option.map_eq_some_iff.mp hj
    have : xb x + i = xb x + j := e
    omega
  · rw [csW_at] at hi
    obtain ⟨_, -, rfl⟩ := Option.map_eq_some_iff.mp hi
    exact Nat.le_add_right _ _
def GoC (K : Fr) (cells slots : Nat) (cs : List va_E) (pc : Nat) (lv : List (Option Value)) (st : List Value) : Prop :=
  ∀ (H : Heap) (locs : List Loc) (ls : Array Slot), Rg (fX K) cs H → va_S (XA (fX K)) (fS K).heap H locs → Lh ls (fN K) lv →
    W (fP K) (fL K) (fE K) (fR K) (fS K) (fM K) (fA K) (fB K) (fMe K) (fC K) H locs cells slots (fQ K) (F0 (fM K) pc ls st)
section CC
variable {K : Fr} {cells slots : Nat} {cs : List va_E} {cc : ByteArray} {own : String} {nL pc : Nat} {lv lv' : List (Option Value)} {st : List Value}
theorem GoC.eq {cs' : List va_E} (h : cs = cs') (k : GoC K cells slots cs' pc lv st) : GoC K cells slots cs pc lv st := by subst h; exact k
theorem GoC.widen {k n : Nat} (h1 : cells ≤ k) (h2 : slots ≤ n) (kk : GoC K k n cs pc lv st) : GoC K cells slots cs pc lv st := fun H locs ls hC hS hL => W.widen h1 h2 (kk H locs ls hC hS hL)
theorem c_iconst (F : Fx K cc own nL) {n : Int} {v : Int32} (hdg : decode cc pc = .ok (.iconst n, 1)) (hv : Int32.ofInt n = v) {np : Nat} (hp : pc + 1 = np) (kk : GoC K cells slots cs np lv (.int v :: st)) : GoC K cells slots cs pc lv st := by
  subst hp
  exact fun H locs ls hC hS hL => lv_iconst F.x F.b hdg hv (kk H locs ls hC hS hL)
theorem c_bipush (F : Fx K cc own nL) {n : Int} {v : Int32} (hdg : decode cc pc = .ok (.bipush n, 2)) (hv : (Int8.ofInt n).toInt32 = v) {np : Nat} (hp : pc + 2 = np) (kk : GoC K cells slots cs np lv (.int v :: st)) : GoC K cells slots cs pc lv st := by
  subst hp
  exact fun H locs ls hC hS hL => lv_bipush F.x F.b hdg hv (kk H locs ls hC hS hL)
theorem c_sipush (F : Fx K cc own nL) {n : Int} {v : Int32} (hdg : decode cc pc = .ok (.sipush n, 3)) (hv : (Int16.ofInt n).toInt32 = v) {np : Nat} (hp : pc + 3 = np) (kk : GoC K cells slots cs np lv (.int v :: st)) : GoC K cells slots cs pc lv st := by
  subst hp
  exact fun H locs ls hC hS hL => lv_sipush F.x F.b hdg hv (kk H locs ls hC hS hL)
theorem c_aload_n (F : Fx K cc own nL) {k : Fin 4} {v : Nat} (hdg : decode cc pc = .ok (.aload_n k, 1)) (hl : lv[(k : Nat)]? = some (some (.ref v))) {np : Nat} (hp : pc + 1 = np) (kk : GoC K cells slots cs np lv (.ref v :: st)) : GoC K cells slots cs pc lv st := by
  subst hp
  exact fun H locs ls hC hS hL => lv_aload_n F.x F.b hdg rfl (hL.2.2 _ _ hl) (kk H locs ls hC hS hL)
theorem c_iload_n (F : Fx K cc own nL) {k : Fin 4} {v : Int32} (hdg : decode cc pc = .ok (.iload_n k, 1)) (hl : lv[(k : Nat)]? = some (some (.int v))) {np : Nat} (hp : pc + 1 = np) (kk : GoC K cells slots cs np lv (.int v :: st)) : GoC K cells slots cs pc lv st := by
  subst hp
  exact fun H locs ls hC hS hL => lv_iload_n F.x F.b hdg rfl (hL.2.2 _ _ hl) (kk H locs ls hC hS hL)
theorem c_istore_n (F : Fx K cc own nL) {k : Fin 4} {v : Int32} (hdg : decode cc pc = .ok (.istore_n k, 1)) (hn : (k : Nat) < nL) (hc : lvc lv k = true) (hl : lv.set k (some (.int v)) = lv') {np : Nat} (hp : pc + 1 = np) (kk : GoC K cells slots cs np lv' st) : GoC K cells slots cs pc lv (.int v :: st) := by
  subst hp
  exact fun H locs ls hC hS hL => lv_istore_n F.x F.b hdg rfl hL.has (by rw [F.n]; exact hn) rfl (fun ls2 hL2 => kk H locs ls2 hC hS (Lh.put hc hl hL2))
theorem c_istore (F : Fx K cc own nL) {k : Nat} {v : Int32} (hdg : decode cc pc = .ok (.istore k, 2)) (hn : k < nL) (hc : lvc lv k = true) (hl : lv.set k (some (.int v)) = lv') {np : Nat} (hp : pc + 2 = np) (kk : GoC K cells slots cs np lv' st) : GoC K cells slots cs pc lv (.int v :: st) := by
  subst hp
  exact fun H locs ls hC hS hL => lv_istore F.x F.b hdg hL.has (by rw [F.n]; exact hn) rfl (fun ls2 hL2 => kk H locs ls2 hC hS (Lh.put hc hl hL2))
theorem c_astore_n (F : Fx K cc own nL) {k : Fin 4} {v : Nat} (hdg : decode cc pc = .ok (.astore_n k, 1)) (hn : (k : Nat) < nL) (hc : lvc lv k = true) (hl : lv.set k (some (.ref v)) = lv') {np : Nat} (hp : pc + 1 = np) (kk : GoC K cells slots cs np lv' st) : GoC K cells slots cs pc lv (.ref v :: st) := by
  subst hp
  exact fun H locs ls hC hS hL => lv_astore_n F.x F.b hdg rfl hL.has (by rw [F.n]; exact hn) rfl (fun ls2 hL2 => kk H locs ls2 hC hS (Lh.put hc hl hL2))
theorem c_astore (F : Fx K cc own nL) {k : Nat} {v : Nat} (hdg : decode cc pc = .ok (.astore k, 2)) (hn : k < nL) (hc : lvc lv k = true) (hl : lv.set k (some (.ref v)) = lv') {np : Nat} (hp : pc + 2 = np) (kk : GoC K cells slots cs np lv' st) : GoC K cells slots cs pc lv (.ref v :: st) := by
  subst hp
  exact fun H locs ls hC hS hL => lv_astore F.x F.b hdg hL.has (by rw [F.n]; exact hn) rfl (fun ls2 hL2 => kk H locs ls2 hC hS (Lh.put hc hl hL2))
theorem c_iinc (F : Fx K cc own nL) {i : Nat} {n : Int} {a v : Int32} (hdg : decode cc pc = .ok (.iinc i n, 3)) (hk : lv[i]? = some (some (.int a))) (hv : a + Int32.ofInt n = v) (hn : i < nL) (hc : lvc lv i = true) (hl : lv.set i (some (.int v)) = lv') {np : Nat} (hp : pc + 3 = np) (kk : GoC K cells slots cs np lv' st) : GoC K cells slots cs pc lv st := by
  subst hp
  intro H locs ls hC hS hL
  obtain ⟨k, hk⟩ := lvl_at hk
  exact lv_iinc F.x F.b hdg hL.has hk hv (by rw [F.n]; exact hn) rfl (fun ls2 hL2 => kk H locs ls2 hC hS (Lh.put hc hl hL2))
theorem c_dup (F : Fx K cc own nL) {va : Value} (hdg : decode cc pc = .ok (.dup, 1)) (hva : va.category = 1) {np : Nat} (hp : pc + 1 = np) (kk : GoC K cells slots cs np lv (va :: va :: st)) : GoC K cells slots cs pc lv (va :: st) := by
  subst hp
  exact fun H locs ls hC hS hL => lv_dup F.x F.b hdg hva (kk H locs ls hC hS hL)
theorem c_goto (F : Fx K cc own nL) {off : Int} {tgt : Nat} (hdg : decode cc pc = .ok (.goto off, 3)) (ht : (pc : Int) + off = (tgt : Int)) (kk : GoC K cells slots cs tgt lv st) : GoC K cells slots cs pc lv st := fun H locs ls hC hS hL => lv_goto F.x F.b hdg ht (kk H locs ls hC hS hL)
theorem c_icmp_ge (F : Fx K cc own nL) {a b : Int32} {off : Int} {tgt : Nat} (hdg : decode cc pc = .ok (.if_icmp .ge off, 3)) (ht : (pc : Int) + off = (tgt : Int)) {np : Nat} (hp : pc + 3 = np) (kt : b ≤ a → GoC K cells slots cs tgt lv st) (kf : ¬ b ≤ a → GoC K cells slots cs np lv st) : GoC K cells slots cs pc lv (.int b :: .int a :: st) := by
  subst hp
  exact fun H locs ls hC hS hL => lv_icmp_ge F.x F.b hdg ht (fun q => kt q H locs ls hC hS hL) (fun q => kf q H locs ls hC hS hL)
theorem c_if_eq (F : Fx K cc own nL) {a : Int32} {off : Int} {tgt : Nat} (hdg : decode cc pc = .ok (.ifCond .eq off, 3)) (ht : (pc : Int) + off = (tgt : Int)) {np : Nat} (hp : pc + 3 = np) (kt : a = 0 → GoC K cells slots cs tgt lv st) (kf : ¬ a = 0 → GoC K cells slots cs np lv st) : GoC K cells slots cs pc lv (.int a :: st) := by
  subst hp
  exact fun H locs ls hC hS hL => lv_if_eq F.x F.b hdg ht (fun q => kt q H locs ls hC hS hL) (fun q => kf q H locs ls hC hS hL)
theorem c_compact (F : Fx K cc own nL) {i : Nat} (hlink : Cond.fieldLink own i "java/lang/String" "COMPACT_STRINGS" "Z" ∈ lw_good) (hdg : decode cc pc = .ok (.getstatic i, 3)) {np : Nat} (hp : pc + 3 = np) (kk : GoC K cells slots cs np lv (.int 1 :: st)) : GoC K cells slots cs pc lv st := by
  subst hp
  obtain ⟨-, -, -, -, -, -, h7, -⟩ := F.s.2.2.2.2.2
  exact fun H locs ls hC hS hL => va_gets F.x F.b h7 hS F.o (F.w _ hlink) (fun _ h => h) hdg (kk H locs ls hC hS hL)
theorem c_mmax (F : Fx K cc own nL) {i : Nat} (hlink : Cond.methodLink own i Lib.Math.max.name ∈ lw_good) (hstat : Cond.static Lib.Math.max.name ∈ lw_good) (hini : Cond.initialized "java/lang/Math" ∈ lw_good) (hcode : Cond.code Lib.Math.max.name Lib.Math.max.code 2 (some .int) ∈ lw_good) {a b : Int32}
    (hfr : 1 ≤ (fR K).frames) (hlo : (st.map fun v => v.category).sum + 13 ≤ (fR K).locals) (hc : cells ≤ (fR K).cells) (hs : slots ≤ (fR K).slots) (hdg : decode cc pc = .ok (.invokestatic i, 3)) {np : Nat} (hp : pc + 3 = np) (kk : GoC K cells slots cs np lv (.int (if a < b then b else a) :: st)) : GoC K cells slots cs pc lv (.int b :: .int a :: st) := by
  subst hp
  exact fun H locs ls hC hS hL => va_mmax F.x F.b (F.ml.trans hL.1.symm) F.o (F.w _ hlink) (F.w _ hstat) (F.w _ hini) (F.w _ hcode) hfr hlo hc hs hdg (kk H locs ls hC hS hL)
theorem c_objInit (F : Fx K cc own nL) {i : Nat} (hlink : Cond.methodLink own i Lib.objectInit ∈ lw_good) (hinst : Cond.instanceMethod Lib.objectInit ∈ lw_good) (hcode : Cond.code Lib.objectInit ⟨#[0xb1]⟩ 1 none ∈ lw_good) {a : Nat} (hfr : 1 ≤ (fR K).frames) (hlo : 2 * 0 + (st.map fun v => v.category).sum + 12 ≤ (fR K).locals) (hdg : decode cc pc = .ok (.invokespecial i, 3)) {np : Nat} (hp : pc + 3 = np) (kk : GoC K cells slots cs np lv st) : GoC K cells slots cs pc lv (.ref a :: st) := by
  subst hp
  exact fun H locs ls hC hS hL => W.objInit F.x F.b F.o (F.w _ hlink) (F.w _ hinst) (F.w _ hcode) rfl (hL.1.trans F.ml.symm) rfl hdg hfr hlo (kk H locs ls hC hS hL)
/-- new C -/
theorem c_new (F : Fx K cc own nL) {ci : Nat} {C : String} {T : u_T} {N : Nat} (hc : vwCl[ci]? = some (C, T, N)) {fs : List Value} (hin : ∀ w ∈ u_ws C T N, w ∈ lw_good) (ty : Nat → FieldType) (hty : ∀ k, k < N → parseFieldDescriptor (T k).2.2.1 = some (ty k)) (hfs : ∀ j, j < N → defaultValue (ty j) = vp_V fs j) {i : Nat} (hcl : Cond.classLink own i C ∈ lw_good) (hinst : Cond.instantiable C N ∈ lw_good) (hini : Cond.initialized C ∈ lw_good)
    {n : Nat} (hn : cs.length = n) (hcells : cells + 1 ≤ (fR K).cells) (hslots : slots + N ≤ (fR K).slots) (hdg : decode cc pc = .ok (.new i, 3)) {np : Nat} (hp : pc + 3 = np) (kk : GoC K (cells + 1) (slots + N) (cs ++ [.inr (ci, fs)]) np lv (.ref (xb (fX K) + n) :: st)) : GoC K cells slots cs pc lv st := by
  subst hp
  subst hn
  intro H locs ls hR hS hL
  obtain ⟨hsz, hP⟩ := hR
  have hKn := F.k.1 ci _ hc
  refine W.newcK F.x F.b F.o (F.w _ hcl) (F.w _ hinst) (F.w _ hini) rfl hdg hcells hslots hKn.2.1 hsz fun H1 kC hkC e1 z1 o1 => ?_
  refine kk H1 locs ls ⟨by rw [z1, List.length_append]; rfl, ?_⟩ ⟨Nat.le_trans hS.1 (by omega), fun x h1 h2 => (o1 x (by have := hS.1; omega)).trans (hS.2.1 x h1 h2), hS.2.2⟩ hL
  rw [csW_app]
  refine (hP.kept fun k x hx => o1 x.1 (by have := (hP k x hx).lt; omega)).app (fun k x hx => ?_)
  have hz : k < 1 := (List.getElem?_eq_some_iff.mp hx).1
  rw [show k = 0 by omega] at hx
  cases hx
  exact ⟨_, hc, (u_born ty F.w hin hKn hkC e1 hty).to hfs⟩
/-- newarray of ints, bytes, longs, doubles -/
theorem c_newa (F : Fx K cc own nL) (t0 : Nat) {atype : ArrayType} {ty : FieldType} (hty : newarray.typeOf atype = ty) {cT : ClassId} (ht : (xtys (fX K))[t0]? = some (cT, ty)) (hra : ∀ cA, va_RA (fS K) cA ty = ((fS K).vm.findClass ("[" ++ ty.toString) = some cA)) (harr : Cond.arrayClass ty ∈ lw_good)
    {v : Int32} {N : Nat} {a0 : vp_A} (ha : ∀ cA : ClassId, vp_cell cA a0 = arrV cA N (fun _ => defaultValue ty)) (hv : v.toNatClampNeg = N) (hpos : ¬ v < 0) (hbytes : N * componentBytes ty ≤ 536870912) {n : Nat} (hn : cs.length = n) (hcells : cells + 1 ≤ (fR K).cells) (hslots : slots + N ≤ (fR K).slots) (hdg : decode cc pc = .ok (.newarray atype, 2)) {np : Nat} (hp : pc + 2 = np)
    (kk : GoC K (cells + 1) (slots + N) (cs ++ [.inl (cT, a0)]) np lv (.ref (xb (fX K) + n) :: st)) : GoC K cells slots cs pc lv (.int v :: st) := by
  subst hp
  subst hn
  subst hty
  intro H locs ls hR hS hL
  obtain ⟨hsz, hP⟩ := hR
  refine va_newaK F.x F.b (F.w _ harr) rfl hdg rfl hpos hv hbytes hcells hslots hsz fun H1 cA e1 z1 o1 hAr hNm => ?_
  have hcA : cA = cT := by
    have a2 := (F.k.2 t0 _ ht).2
    rw [hra] at a2
    exact Option.some.inj (hNm.symm.trans a2)
  subst hcA
  refine kk H1 locs ls ⟨by rw [z1, List.length_append]; rfl, ?_⟩ ⟨Nat.le_trans hS.1 (by omega), fun x h1 h2 => (o1 x (by have := hS.1; omega)).trans (hS.2.1 x h1 h2), hS.2.2⟩ hL
  rw [csW_app]
  refine (hP.kept fun k x hx => o1 x.1 (by have := (hP k x hx).lt; omega)).app (fun k x hx => ?_)
  have hz : k < 1 := (List.getElem?_eq_some_iff.mp hx).1
  rw [show k = 0 by omega] at hx
  cases hx
  show H1[xb (fX K) + cs.length]? = some (vp_cell _ _)
  rw [ha]
  exact e1
/-- anewarray -/
theorem c_newq (F : Fx K cc own nL) (t0 : Nat) {C : String} {cT : ClassId} (ht : (xtys (fX K))[t0]? = some (cT, .object C)) {i : Nat} (hcl : Cond.classLink own i C ∈ lw_good) (hover : va_AO C (fS K))
    {v : Int32} {N : Nat} (hv : v.toNatClampNeg = N) (hpos : ¬ v < 0) (hbytes : N * 4 ≤ 536870912) {n : Nat} (hn : cs.length = n) (hcells : cells + 1 ≤ (fR K).cells) (hslots : slots + N ≤ (fR K).slots) (hdg : decode cc pc = .ok (.anewarray i, 3)) {np : Nat} (hp : pc + 3 = np)
    (kk : GoC K (cells + 1) (slots + N) (cs ++ [.inl (cT, N, .inr (.inr (.inr (.inr (fun _ => none)))))]) np lv (.ref (xb (fX K) + n) :: st)) : GoC K cells slots cs pc lv (.int v :: st) := by
  subst hp
  subst hn
  subst hv
  intro H locs ls hR hS hL
  obtain ⟨hsz, hP⟩ := hR
  refine W.anew F.x F.b F.o (F.w _ hcl) (va_AO.use hover) rfl hdg rfl hpos hbytes hcells hslots fun cA kA comp f1 f2 f3 f4 => ?_
  have hcA : cA = cT := by
    obtain ⟨_, _, -, -, -, a2⟩ := (F.k.2 t0 _ ht).2
    exact Option.some.inj (f1.symm.trans a2)
  subst hcA
  rw [hsz]
  generalize hH1 : H.push ({ cls := cA, slots := Array.replicate v.toNatClampNeg .null, vm := .none } : Cell) = H1
  have z1 : H1.size = H.size + 1 := by rw [← hH1, Array.size_push]
  have e1 : H1[H.size]? = some (arrV cA v.toNatClampNeg (fun _ => .null)) := by rw [← hH1, Array.getElem?_push_size, ← arrV_new]
  have o1 : ∀ q : Nat, q < H.size → H1[q]? = H[q]? := fun q hq => by rw [← hH1, Array.getElem?_push, if_neg (Nat.ne_of_lt hq)]
  refine kk H1 locs ls ⟨by rw [z1, List.length_append, hsz]; rfl, ?_⟩ ⟨Nat.le_trans hS.1 (by omega), fun x h1 h2 => (o1 x (by have := hS.1; omega)).trans (hS.2.1 x h1 h2), hS.2.2⟩ hL
  rw [csW_app]
  refine (hP.kept fun k x hx => o1 x.1 (by have := (hP k x hx).lt; omega)).app (fun k x hx => ?_)
  have hz : k < 1 := (List.getElem?_eq_some_iff.mp hx).1
  rw [show k = 0 by omega] at hx
  cases hx
  show H1[xb (fX K) + cs.length]? = some (vp_cell _ _)
  rw [vp_cell_q, ← hsz]
  exact e1
theorem rg_set {H H1 : Heap} {i : Nat} {e0 e : va_E} {x : Ctx} (hR : Rg x cs H) (h0 : cs[i]? = some e0) (hz : H1.size = H.size) (he : va_at (xD x) vwCl (xb x + i, e) H1) (oq : ∀ q : Nat, q ≠ xb x + i → H1[q]? = H[q]?) : Rg x (cs.set i e) H1 := by
  refine ⟨by rw [hz, hR.1, List.length_set], ?_⟩
  rw [csW_set]
  exact hR.2.set (rg_D x cs) (p := i) (e0 := e0) (by rw [csW_at, h0]; rfl) he oq
/-- putfield of a field that isn't final -/
theorem c_put (F : Fx K cc own nL) (j : Nat) {ci : Nat} {fs : List Value} (hj : cs[j]? = some (.inr (ci, fs))) {C : String} {T : u_T} {N i : Nat} (hc : vwCl[ci]? = some (C, T, N)) (hin : ∀ w ∈ u_ws C T N, w ∈ lw_good) (ty0 : Nat → FieldType) (hty : ∀ k, k < N → parseFieldDescriptor (T k).2.2.1 = some (ty0 k)) (hnm : ∀ a, a < N → ∀ b, b < N → a ≠ b → (T a).2.1 ≠ (T b).2.1) (k : Nat) (hk : k < N) (hlink : Cond.fieldLink own i (T k).1 (T k).2.1 (T k).2.2.1 ∈ lw_good) (hfin : (T k).2.2.2 = false) {v : Value}
    {ty : FieldType} (hd : parseFieldDescriptor (T k).2.2.1 = some ty) (hn : narrow ty v = v) (hfit : fits ty v = true) (hl : k < fs.length) (hdg : decode cc pc = .ok (.putfield i, 3)) {np : Nat} (hp : pc + 3 = np) (kk : GoC K cells slots (cs.set j (.inr (ci, fs.set k v))) np lv st) : GoC K cells slots cs pc lv (v :: .ref (xb (fX K) + j) :: st) := by
  subst hp
  intro H locs ls hR hS0 hL
  have hap := va_apart (own := own) F.w hin ty0 hty hnm F.k hc
  obtain ⟨r, h1, cell, q1, q2, q3, q4⟩ := hR.2 j (xb (fX K) + j, .inr (ci, fs)) (by rw [csW_at, hj]; rfl)
  have hr : r = (C, T, N) := Option.some.inj (h1.symm.trans hc)
  subst hr
  obtain ⟨hS, hfc, kC, hkC, hkind⟩ := F.k.1 ci _ hc
  obtain ⟨cf, kf, fi, f, hi, hsl⟩ := hS k hk
  have hlay := F.w _ (hin _ (u_in_lay hk))
  unfold u_lay at hlay
  rw [if_neg (by rw [hfin]; decide)] at hlay
  have hst := (u_facts hfc hkC (u_lays F.w hin hk) hi).1
  have h6 := u_store hfc hkC hkind hlay hi hd hn hfit
  refine W.putK F.x F.b (f := f) ⟨F.o, F.w _ hlink, ⟨_, _, _, hi⟩, hst⟩ (by rw [q2]; exact h6) q1 q3 (by rw [hsl]; exact k2_hasslot (q4 k hk)) rfl rfl hdg fun H' e1 e2 e3 => ?_
  rw [hsl] at e1 ⊢
  exact kk H' _ ls (rg_set hR hj e2 ⟨_, hc, t_OB.to (V := updV (vp_V fs) k v) ⟨_, e1, q2, q3, t_set q4 hap hk v⟩ (fun j _ => vp_updV_set hl v j)⟩ e3) (hS0.put e2 e3 (Nat.le_add_right _ _)) hL
/-- putfield of a final field, in the constructor -/
theorem c_putF (F : Fx K cc own nL) (hini2 : (fMe K).name = "<init>") (j : Nat) {ci : Nat} {fs : List Value} (hj : cs[j]? = some (.inr (ci, fs))) {C : String} {T : u_T} {N i : Nat} (hc : vwCl[ci]? = some (C, T, N)) (hin : ∀ w ∈ u_ws C T N, w ∈ lw_good) (ty0 : Nat → FieldType) (hty : ∀ k, k < N → parseFieldDescriptor (T k).2.2.1 = some (ty0 k)) (hnm : ∀ a, a < N → ∀ b, b < N → a ≠ b → (T a).2.1 ≠ (T b).2.1) (k : Nat) (hk : k < N) (hlink : Cond.fieldLink own i (T k).1 (T k).2.1 (T k).2.2.1 ∈ lw_good) (hfin : (T k).2.2.2 = true) (hdecl : (T k).1 = own) {v : Value}
    {ty : FieldType} (hd : parseFieldDescriptor (T k).2.2.1 = some ty) (hn : narrow ty v = v) (hfit : fits ty v = true) (hl : k < fs.length) (hdg : decode cc pc = .ok (.putfield i, 3)) {np : Nat} (hp : pc + 3 = np) (kk : GoC K cells slots (cs.set j (.inr (ci, fs.set k v))) np lv st) : GoC K cells slots cs pc lv (v :: .ref (xb (fX K) + j) :: st) := by
  subst hp
  intro H locs ls hR hS0 hL
  have hap := va_apart (own := own) F.w hin ty0 hty hnm F.k hc
  obtain ⟨r, h1, cell, q1, q2, q3, q4⟩ := hR.2 j (xb (fX K) + j, .inr (ci, fs)) (by rw [csW_at, hj]; rfl)
  have hr : r = (C, T, N) := Option.some.inj (h1.symm.trans hc)
  subst hr
  obtain ⟨hS, hfc, kC, hkC, hkind⟩ := F.k.1 ci _ hc
  obtain ⟨cf, kf, fi, f, hi, hsl⟩ := hS k hk
  have hlay := F.w _ (hin _ (u_in_lay hk))
  unfold u_lay at hlay
  rw [if_pos hfin] at hlay
  have hst := (u_facts hfc hkC (u_lays F.w hin hk) hi).1
  have hcf : (fM K).cls = cf := by
    obtain ⟨_, _, c', _, _, _, -, -, hf', -, -, -, hown2, -⟩ := Cond.laysFinal_spec hlay
    have e1 : c' = cf := by have := hi.symm.trans hf'; simp at this; exact this.1.symm
    rw [hdecl] at hown2
    rw [← e1]; exact Option.some.inj (F.o.symm.trans hown2)
  have h6 := u_fits hfc hkC hkind (Or.inr hlay) hi hd hn hfit
  refine W.putFinK F.x F.b F.o (F.w _ hlink) hi hst hcf hini2 (by rw [q2]; exact h6) q1 q3 (by rw [hsl]; exact k2_hasslot (q4 k hk)) rfl rfl hdg fun H' e1 e2 e3 => ?_
  rw [hsl] at e1 ⊢
  exact kk H' _ ls (rg_set hR hj e2 ⟨_, hc, t_OB.to (V := updV (vp_V fs) k v) ⟨_, e1, q2, q3, t_set q4 hap hk v⟩ (fun j _ => vp_updV_set hl v j)⟩ e3) (hS0.put e2 e3 (Nat.le_add_right _ _)) hL
theorem c_get (F : Fx K cc own nL) (j : Nat) {ci : Nat} {fs : List Value} (hj : cs[j]? = some (.inr (ci, fs))) {C : String} {T : u_T} {N i : Nat} (hc : vwCl[ci]? = some (C, T, N)) (hin : ∀ w ∈ u_ws C T N, w ∈ lw_good) (k : Nat) (hk : k < N) (hlink : Cond.fieldLink own i (T k).1 (T k).2.1 (T k).2.2.1 ∈ lw_good) {v : Value} (hv : fs[k]? = some v) (hdg : decode cc pc = .ok (.getfield i, 3)) {np : Nat} (hp : pc + 3 = np) (kk : GoC K cells slots cs np lv (v :: st)) : GoC K cells slots cs pc lv (.ref (xb (fX K) + j) :: st) := by
  subst hp
  exact fun H locs ls hR hS hL => va_get F.x F.b F.w hin F.o F.k hR.2 j (by rw [csW_at, hj]; rfl) hc k hk (F.w _ hlink) (fun _ h => h) hv hdg (kk H locs ls hR hS hL)
theorem c_alen (F : Fx K cc own nL) (j : Nat) {cA : ClassId} {y : vp_A} (hj : cs[j]? = some (.inl (cA, y))) {t0 : Nat} {ty : FieldType} (ht : (xtys (fX K))[t0]? = some (cA, ty)) {v : Int32} (hv : Int32.ofNat y.1 = v) (hdg : decode cc pc = .ok (.arraylength, 1)) {np : Nat} (hp : pc + 1 = np) (kk : GoC K cells slots cs np lv (.int v :: st)) : GoC K cells slots cs pc lv (.ref (xb (fX K) + j) :: st) := by
  subst hp
  exact fun H locs ls hR hS hL => va_alen F.x F.b F.k hR.2 j t0 (by rw [csW_at, hj]; rfl) ht hv hdg (kk H locs ls hR hS hL)
theorem c_iast (F : Fx K cc own nL) (j : Nat) {n : Nat} {f : Nat → Int32} (hj : cs[j]? = some (.inl (xct (fX K) 0, n, .inl f))) {i v : Int32} (hin : vp_in i n) (hdg : decode cc pc = .ok (.iastore, 1)) {np : Nat} (hp : pc + 1 = np) (kk : GoC K cells slots (cs.set j (.inl (xct (fX K) 0, n, .inl (upd f i.toNatClampNeg v)))) np lv st) : GoC K cells slots cs pc lv (.int v :: .int i :: .ref (xb (fX K) + j) :: st) := by
  subst hp
  intro H locs ls hR hS hL
  have hw : (csW (fX K) cs)[j]? = some (xb (fX K) + j, .inl (xct (fX K) 0, n, .inl f)) := by rw [csW_at, hj]; rfl
  refine W.iast F.x F.b (hR.2 j _ hw) ((F.k.2 0 _ rfl).1 n (fun j => .int (f j))) (fun q => by cases q) (by show ¬ (i < 0 ∨ (arrV _ _ _).slots.size ≤ _); rw [arrV_size]; exact hin) rfl rfl hdg fun H1 e z oq => ?_
  refine kk H1 _ ls (rg_set hR hj z ?_ oq) (hS.put z oq (Nat.le_add_right _ _)) hL
  show H1[xb (fX K) + j]? = some (vp_cell _ _)
  rw [e]
  rw [vp_cell_i, vp_cell_i, arrV_store]
  congr 2
  funext q
  unfold updV upd
  by_cases hq : q = i.toNatClampNeg
  · rw [if_pos hq, if_pos hq]
  · rw [if_neg hq, if_neg hq]
theorem c_astq (F : Fx K cc own nL) (j jk ci : Nat) {n : Nat} {t0 : Nat} {cA : ClassId} {r : vw_C} {vs : List Value} {f : Nat → Option Nat} (hj : cs[j]? = some (.inl (cA, n, .inr (.inr (.inr (.inr f)))))) (ht : (xtys (fX K))[t0]? = some (cA, .object r.1)) (hv : cs[jk]? = some (.inr (ci, vs))) (hc : vwCl[ci]? = some r) {i : Int32} (hin : vp_in i n) (hdg : decode cc pc = .ok (.aastore, 1)) {np : Nat} (hp : pc + 1 = np)
    (kk : GoC K cells slots (cs.set j (.inl (cA, n, .inr (.inr (.inr (.inr (va_up f i.toNatClampNeg (some (xb (fX K) + jk))))))))) np lv st) : GoC K cells slots cs pc lv (.ref (xb (fX K) + jk) :: .int i :: .ref (xb (fX K) + j) :: st) := by
  subst hp
  intro H locs ls hR hS hL
  have hlt : i.toNatClampNeg < n := Nat.not_le.mp fun q => hin (Or.inr q)
  have h0 : ¬ i < 0 := fun q => hin (Or.inl q)
  have hw : (csW (fX K) cs)[j]? = some (xb (fX K) + j, .inl (cA, n, .inr (.inr (.inr (.inr f))))) := by rw [csW_at, hj]; rfl
  obtain ⟨r', hr', cellV, g1, g2, g3, -⟩ := hR.2 jk (xb (fX K) + jk, .inr (ci, vs)) (by rw [csW_at, hv]; rfl)
  have hcls := (F.k.1 ci r hc).2
  obtain ⟨kA, comp, k1, k2, k3, -⟩ := (F.k.2 t0 _ ht).2
  have hcomp : comp = (xD (fX K)).1 ci := Option.some.inj (k3.symm.trans hcls.1)
  subst hcomp
  obtain ⟨kC, hkC, -⟩ := hcls.2
  refine W.aast F.x F.b (hR.2 j _ hw) (fun q h => by cases h) (fun h => by cases h) k1 k2 rfl hkC ⟨h0, by show _ < (arrV _ _ _).slots.size; rw [arrV_size]; exact hlt⟩ g1 (fun q h => by rw [g3] at h; cases h) (by rw [g2]; exact hkC) (by rw [g2]; exact va_assign hcls) rfl rfl hdg fun H1 e z oq => ?_
  refine kk H1 _ ls (rg_set hR hj z ?_ oq) (hS.put z oq (Nat.le_add_right _ _)) hL
  show H1[xb (fX K) + j]? = some (vp_cell _ _)
  rw [e]
  rw [vp_cell_q, vp_cell_q, arrV_store]
  congr 2
  funext q
  unfold updV va_up
  by_cases hq : q = i.toNatClampNeg
  · rw [if_pos hq, if_pos hq]
    rfl
  · rw [if_neg hq, if_neg hq]
end CC
/-! contracts of constructors -/
def RWd (x : Ctx) (cs : List va_E) (U : State) : Prop := Rg x cs U.heap ∧ va_K (xD x) vwCl (xtys x) U ∧ Stat x U U.heap ∧ AOs U
theorem RWd.moved {x : Ctx} {cs : List va_E} {u U : State} (hW : u.WarmedH U.vm) (hh : U.heap = u.heap) (h : RWd x cs u) : RWd x cs U :=
  ⟨by rw [hh]; exact h.1, h.2.1.moved hW.alike, by rw [hh]; exact h.2.2.1.moved hW, h.2.2.2.1.moved hW.alike, h.2.2.2.2.moved hW.alike⟩
def QR (x : Ctx) (cs : List va_E) : Array Value → State → Outcome → State → Prop := fun _ st o t => (o = .returned none ∧ Rg x cs t.heap) ∧ va_F (XA x) st t
def MetR (l : Launch) (x : Ctx) (y : MethodName) (cc : ByteArray) (maxL fr lo mc ms : Nat) (As : List Value) (cs cs' : List va_E) : Prop :=
  Met l y (Cond.code y cc maxL none :: lw_good) ({ frames := fr, cells := mc, slots := ms, locals := lo }) (va_Pc As (RWd x cs)) (QR x cs') mc ms (XA x)
def BdR (K : Fr) (cc : ByteArray) (own : String) (nL fr lo mc ms : Nat) (cs' : List va_E) : Prop :=
  Fx K cc own nL ∧ fR K = ({ frames := fr, cells := mc, slots := ms, locals := lo } : Room) ∧ (fMe K).sig.returnType = none ∧ fQ K = MQ (fB K) (QR (fX K) cs') (fA K) (fS K) mc ms (XA (fX K)) ∧ (fMe K).name = "<init>" ∧ AOs (fS K)
theorem MetR.of {l : Launch} {x : Ctx} {y : MethodName} {cc : ByteArray} {maxL fr lo mc ms : Nat} {As : List Value} {cs cs' : List va_E} (hl : l.stackTraces = false) (hy : plainName y.cls = true) (hyn : y.name = "<init>") (hn : (lg_sl As).length ≤ maxL) (lv : List (Option Value)) (hlv : lvl lv = lv_args 0 As)
    (body : ∀ K : Fr, BdR K cc y.cls maxL fr lo mc ms cs' → fX K = x → fL K = l → GoC K 0 0 cs 0 lv []) : MetR l x y cc maxL fr lo mc ms As cs cs' := by
  refine Met.ofW (cc := cc) (maxL := maxL) (ret := none) hy rfl ?_
  intro p e s m args below meth c s₁ B hml hv
  obtain ⟨rfl, hR, hK, hS, hao⟩ := hv
  have hts := atoms_spec (ws := Cond.code y cc maxL none :: lw_good) B.pre
  have K1 := body (p, l, e, (headSpec (Cond.code y cc maxL none :: lw_good) ({ frames := fr, cells := mc, slots := ms, locals := lo } : Room)).room, s, m, As.toArray, below, meth, c, x, maxL, MQ below (QR x cs') As.toArray s mc ms (XA x))
    ⟨⟨B.exec, B.bytes, hml, findClass_of_methodNamed B.named, fun w hw => hts w (List.mem_cons_of_mem _ hw), hK, hS, by rw [hR.1]; exact Nat.le_add_right _ _, B.notSynchronized, hl, rfl⟩, rfl, B.returns, rfl, ((name_of_methodNamed B.named B.method).1).trans hyn, hao⟩ rfl rfl
  rw [lg_entry_eq]
  exact K1 s.heap [] _ hR va_S.rf (Lh.of (lv_entry As hn) hlv)
section CB
variable {K : Fr} {cells slots : Nat} {cs : List va_E} {cc : ByteArray} {own : String} {nL pc fr lo mc ms : Nat} {cs' : List va_E} {lv : List (Option Value)} {st : List Value}
theorem c_vret (B : BdR K cc own nL fr lo mc ms cs') (hc : cells ≤ mc) (hs : slots ≤ ms) (hdg : decode cc pc = .ok (.return_, 1)) (hq : cs = cs') : GoC K cells slots cs pc lv [] := by
  subst hq
  intro H locs ls hR hS hL
  rw [B.2.2.2.1]
  exact W.widen hc hs (W.vret B.1.x B.1.b B.2.2.1 (fun t ht _ => ⟨⟨rfl, by rw [ht]; exact hR⟩, hS.F ht⟩) hS.2.2 hdg B.1.lk)
theorem c_ran {cs1 : List va_E} {mc' ms' : Nat} {a : Array Value} {st0 : List Value}
    (hr : ∀ (H : Heap) (locs : List Loc) (ls : Array Slot), Rg (fX K) cs H → va_S (XA (fX K)) (fS K).heap H locs → Lh ls (fN K) lv →
      va_Run (fP K) (fL K) (fE K) (fR K) (fS K) (fM K) (fA K) (fB K) (fMe K) (fC K) H locs cells slots mc' ms' (F0 (fM K) pc ls st0) st (QR (fX K) cs1 a) (XA (fX K)))
    {np : Nat} (hp : pc + 3 = np) (kk : GoC K (cells + mc') (slots + ms') cs1 np lv st) : GoC K cells slots cs pc lv st0 := by
  subst hp
  intro H locs ls hR hS hL T hT X
  obtain ⟨v, st₀, t, T', L, h0, X', hfl, e1, e2, ⟨⟨hv, hR1⟩, hz⟩, hgo⟩ := hr H locs ls hR hS hL T hT X
  cases hv
  have hS' : va_S (XA (fX K)) (fS K).heap T'.heap (locs ++ L) := by
    refine ⟨?_, ?_, ?_⟩
    · rw [e1]
      exact Nat.le_trans hS.1 (by have := hz.1; rw [h0] at this; exact this)
    · intro q h1 h2
      rw [e1]
      have h3 := hz.2 q (by rw [h0]; exact Nat.lt_of_lt_of_le h1 hS.1) h2
      rw [h3, h0]
      exact hS.2.1 q h1 h2
    · intro z hzz
      rcases List.mem_append.mp hzz with h | h
      · exact hS.2.2 z h
      · exact hfl z h
  obtain ⟨t2, a1, b1⟩ := kk T'.heap (locs ++ L) ls (by rw [e1]; exact hR1) hS' hL T' rfl X'
  exact ⟨t2, hgo t2 a1, b1⟩
theorem good_c {y' : MethodName} {cc' : ByteArray} {maxL' : Nat} (hcode : Cond.code y' cc' maxL' none ∈ lw_good) : GoodIn lw_good (Cond.code y' cc' maxL' none :: lw_good) := by
  intro w hw
  have h2 : w ∈ lw_good := by
    rcases List.mem_cons.mp hw with e | e
    · rw [e]; exact hcode
    · exact e
  exact ⟨h2, good_of_word (List.mem_filter.mp h2).2⟩
/-- a constructor's call -/
theorem c_call (F : Fx K cc own nL) (hao : AOs (fS K)) {i n a : Nat} {y' : MethodName} {cc' : ByteArray} {maxL' fr' lo' mc' ms' : Nat} {As : List Value} {cs1 : List va_E} (hM : MetR (fL K) (fX K) y' cc' maxL' fr' lo' mc' ms' (.ref a :: As) cs cs1)
    (hcode : Cond.code y' cc' maxL' none ∈ lw_good) (hlink : Cond.methodLink own i y' ∈ lw_good) (hinst : Cond.instanceMethod y' ∈ lw_good) (hini : Cond.initialized y'.cls ∈ lw_good) (hyn : y'.name = "<init>")
    (hd : y'.cls ≠ "java/lang/invoke/MethodHandle" ∧ y'.cls ≠ "java/lang/invoke/VarHandle" ∧ (parseMethodDescriptor y'.desc).map (fun d => d.parameters.length) = some n) (hn : As.length = n) (hfr : fr' + 1 ≤ (fR K).frames) (hlo : 8 + (maxL' + 11) + lo' ≤ (fR K).locals) (hst : (st.map fun v => v.category).sum ≤ 8) (hdg : decode cc pc = .ok (.invokespecial i, 3))
    (hc : cells + mc' ≤ (fR K).cells) (hs : slots + ms' ≤ (fR K).slots) {np : Nat} (hp : pc + 3 = np) (kk : GoC K (cells + mc') (slots + ms') cs1 np lv st) : GoC K cells slots cs pc lv (As.reverse ++ .ref a :: st) := by
  have hfx : CallFix (fP K) (fM K) (fC K) cc nL (fS K) (fA K) lw_good own := ⟨F.x, F.b, F.ml.trans F.n, F.o, F.w⟩
  exact c_ran (a := (Value.ref a :: As).toArray) (fun H locs ls hR hS hL => va_runI hfx hM (cwI n F.w (good_c hcode) rfl rfl rfl (F.w _ hini) (F.w _ hlink) (F.w _ hinst) hyn hd ⟨hfr, hlo⟩)
      ⟨fun a U g mk q => ⟨q.1, q.2.moved (State.WarmedH.refl U) rfl⟩, fun U hU hW => ⟨rfl, by rw [hU]; exact hR, F.k.moved hW.alike, by rw [hU]; exact (F.s.moved hW).kept (fun a h1 h2 => hS.2.1 a h1 h2), hao.1.moved hW.alike, hao.2.moved hW.alike⟩⟩ rfl hn (hL.1.trans F.n) rfl (lv_room hst) hdg ⟨hc, hs⟩) hp kk
/-- .. a nest mate's private one -/
theorem c_callN (F : Fx K cc own nL) (hao : AOs (fS K)) {i n a : Nat} {host : String} {y' : MethodName} {cc' : ByteArray} {maxL' fr' lo' mc' ms' : Nat} {As : List Value} {cs1 : List va_E} (hM : MetR (fL K) (fX K) y' cc' maxL' fr' lo' mc' ms' (.ref a :: As) cs cs1)
    (hcode : Cond.code y' cc' maxL' none ∈ lw_good) (hlink : Cond.methodLinkNest own i y' host ∈ lw_tbl) (hinst : Cond.instanceMethod y' ∈ lw_good) (hini : Cond.initialized y'.cls ∈ lw_good) (hyn : y'.name = "<init>")
    (hd : y'.cls ≠ "java/lang/invoke/MethodHandle" ∧ y'.cls ≠ "java/lang/invoke/VarHandle" ∧ (parseMethodDescriptor y'.desc).map (fun d => d.parameters.length) = some n) (hn : As.length = n) (hfr : fr' + 1 ≤ (fR K).frames) (hlo : 8 + (maxL' + 11) + lo' ≤ (fR K).locals) (hst : (st.map fun v => v.category).sum ≤ 8) (hdg : decode cc pc = .ok (.invokespecial i, 3))
    (hc : cells + mc' ≤ (fR K).cells) (hs : slots + ms' ≤ (fR K).slots) {np : Nat} (hp : pc + 3 = np) (kk : GoC K (cells + mc') (slots + ms') cs1 np lv st) : GoC K cells slots cs pc lv (As.reverse ++ .ref a :: st) := by
  have hfx : CallFix (fP K) (fM K) (fC K) cc nL (fS K) (fA K) lw_good own := ⟨F.x, F.b, F.ml.trans F.n, F.o, F.w⟩
  exact c_ran (a := (Value.ref a :: As).toArray) (fun H locs ls hR hS hL => va_runIN hfx hM ⟨va_cnB n F.w (good_c hcode) rfl rfl rfl (F.s.2.2.2.2.1 _ hlink rfl) (F.w _ hini) hd ⟨hfr, hlo⟩, hyn, F.w _ hinst⟩
      ⟨fun a U g mk q => ⟨q.1, q.2.moved (State.WarmedH.refl U) rfl⟩, fun U hU hW => ⟨rfl, by rw [hU]; exact hR, F.k.moved hW.alike, by rw [hU]; exact (F.s.moved hW).kept (fun a h1 h2 => hS.2.1 a h1 h2), hao.1.moved hW.alike, hao.2.moved hW.alike⟩⟩ rfl hn (hL.1.trans F.n) rfl (lv_room hst) hdg ⟨hc, hs⟩) hp kk
end CB
