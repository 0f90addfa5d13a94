/-! THE JUDGEMENT: a frame over the world. K: all that is fixed during one run of a method's body. -/
abbrev Fr : Type := Program × Launch × Env × Room × State × MethodId × Array Value × List Frame × Method × Code × Ctx × Nat × (State → Prop)
abbrev fP (K : Fr) : Program := K.1
abbrev fL (K : Fr) : Launch := K.2.1
abbrev fE (K : Fr) : Env := K.2.2.1
abbrev fR (K : Fr) : Room := K.2.2.2.1
abbrev fS (K : Fr) : State := K.2.2.2.2.1
abbrev fM (K : Fr) : MethodId := K.2.2.2.2.2.1
abbrev fA (K : Fr) : Array Value := K.2.2.2.2.2.2.1
abbrev fB (K : Fr) : List Frame := K.2.2.2.2.2.2.2.1
abbrev fMe (K : Fr) : Method := K.2.2.2.2.2.2.2.2.1
abbrev fC (K : Fr) : Code := K.2.2.2.2.2.2.2.2.2.1
abbrev fX (K : Fr) : Ctx := K.2.2.2.2.2.2.2.2.2.2.1
abbrev fN (K : Fr) : Nat := K.2.2.2.2.2.2.2.2.2.2.2.1
abbrev fQ (K : Fr) : State → Prop := K.2.2.2.2.2.2.2.2.2.2.2.2
/-- the locals: what is known of each -/
def Lh (ls : Array Slot) (nL : Nat) (lv : List (Option Value)) : Prop := ls.size = nL ∧ lv_wf ls ∧ ∀ (i : Nat) (v : Value), lv[i]? = some (some v) → ls[i]? = some (.val v)
def lvl (lv : List (Option Value)) : List (Nat × Value) := lv.zipIdx.filterMap fun q => q.1.map fun v => (q.2, v)
theorem lvl_mem {lv : List (Option Value)} {i : Nat} {v : Value} : (i, v) ∈ lvl lv ↔ lv[i]? = some (some v) := by
  unfold lvl
  rw [List.mem_filterMap]
  constructor
  · rintro ⟨⟨o, j⟩, h1, h2⟩
    have h3 := List.mem_zipIdx_iff_getElem?.mp h1
    cases o with
    | none => simp at h2
    | some w =>
      simp only [Option.map_some, Option.some.injEq, Prod.mk.injEq] at h2
      obtain ⟨rfl, rfl⟩ := h2
      exact h3
  · intro h
    exact ⟨(some v, i), List.mem_zipIdx_iff_getElem?.mpr h, rfl⟩
theorem Lh.has {ls : Array Slot} {nL : Nat} {lv : List (Option Value)} (h : Lh ls nL lv) : lv_has ls nL (lvl lv) := ⟨h.1, h.2.1, fun q hq => h.2.2 q.1 q.2 (lvl_mem.mp hq)⟩
theorem Lh.of {ls : Array Slot} {nL : Nat} {lv : List (Option Value)} {l : List (Nat × Value)} (h : lv_has ls nL l) (hl : lvl lv = l) : Lh ls nL lv := ⟨h.1, h.2.1, fun i v hv => h.2.2 (i, v) (by rw [← hl]; exact lvl_mem.mpr hv)⟩
theorem Lh.less {ls : Array Slot} {nL : Nat} {lv lv' : List (Option Value)} (h : Lh ls nL lv) (hl : ∀ (i : Nat) (v : Value), lv'[i]? = some (some v) → lv[i]? = some (some v)) : Lh ls nL lv' := ⟨h.1, h.2.1, fun i v hv => h.2.2 i v (hl i v hv)⟩
/-- nothing of two slots lies just below the place -/
def lvc (lv : List (Option Value)) : Nat → Bool
  | 0 => true
  | j + 1 => match lv[j]? with
    | some (some w) => w.category == 1
    | _ => true
theorem Lh.put {ls' : Array Slot} {nL i : Nat} {lv lv' : List (Option Value)} {v : Value} (hc : lvc lv i = true) (hl : lv.set i (some v) = lv')
    (h : lv_has ls' nL ((i, v) :: (lvl lv).filter (fun q => !(q.1 == i) && !(q.1 + 1 == i && q.2.category == 2)))) : Lh ls' nL lv' := by
  subst hl
  refine ⟨h.1, h.2.1, fun j w hw => ?_⟩
  by_cases hj : i = j
  · subst hj
    have hlt : i < lv.length := by
      have := (List.getElem?_eq_some_iff.mp hw).1
      simpa using this
    rw [List.getElem?_set_self hlt] at hw
    cases hw
    exact h.2.2 (i, v) List.mem_cons_self
  · rw [List.getElem?_set_ne hj] at hw
    refine h.2.2 (j, w) (List.mem_cons_of_mem _ (List.mem_filter.mpr ⟨lvl_mem.mpr hw, ?_⟩))
    have h1 : (j == i) = false := by simpa using fun e => hj e.symm
    rw [h1]
    by_cases h2 : j + 1 = i
    · subst h2
      have : (w.category == 1) = true := by
        have := hc
        simp only [lvc, hw] at this
        exact this
      have hw1 : w.category = 1 := by simpa using this
      rw [hw1]
      simp
    · have : (j + 1 == i) = false := by simpa using h2
      rw [this]
      rfl
def Go (K : Fr) (cells slots : Nat) (σ : Mem) (pc : Nat) (lv : List (Option Value)) (st : List Value) : Prop :=
  ∀ (H : Heap) (locs : List Loc) (ls : Array Slot), Cells (fX K) σ H → Dis (fX K) σ → va_S (XA (fX K)) (fS K).heap H locs → Lh ls (fN K) lv →
    W (fP K) (fL K) (fE K) (fR K) (fS K) (fM K) (fA K) (fB K) (fMe K) (fC K) H locs cells slots (fQ K) (F0 (fM K) pc ls st)
/-- what is known of the method and the machine -/
def Fx (K : Fr) (cc : ByteArray) (own : String) (nL : Nat) : Prop :=
  (fP K).tables.exec = Jvm.exec ∧ (fC K).code = cc ∧ (fC K).maxLocals = fN K ∧ (fS K).vm.findClass own = some (fM K).cls ∧ (∀ w ∈ lw_good, w.before (fA K) (fS K) = true) ∧ va_K (xD (fX K)) vwCl (xtys (fX K)) (fS K) ∧ Stat (fX K) (fS K) (fS K).heap ∧ xb (fX K) ≤ (fS K).heap.size ∧ (fMe K).locks = false ∧ (fL K).stackTraces = false ∧ fN K = nL
section GO
variable {K : Fr} {cells slots : Nat} {σ : Mem} {cc : ByteArray} {own : String} {nL pc : Nat} {lv lv' : List (Option Value)} {st : List Value}
theorem Fx.x (F : Fx K cc own nL) : (fP K).tables.exec = Jvm.exec := F.1
theorem Fx.b (F : Fx K cc own nL) : (fC K).code = cc := F.2.1
theorem Fx.ml (F : Fx K cc own nL) : (fC K).maxLocals = fN K := F.2.2.1
theorem Fx.o (F : Fx K cc own nL) : (fS K).vm.findClass own = some (fM K).cls := F.2.2.2.1
theorem Fx.w (F : Fx K cc own nL) : ∀ w ∈ lw_good, w.before (fA K) (fS K) = true := F.2.2.2.2.1
theorem Fx.k (F : Fx K cc own nL) : va_K (xD (fX K)) vwCl (xtys (fX K)) (fS K) := F.2.2.2.2.2.1
theorem Fx.s (F : Fx K cc own nL) : Stat (fX K) (fS K) (fS K).heap := F.2.2.2.2.2.2.1
theorem Fx.h (F : Fx K cc own nL) : xb (fX K) ≤ (fS K).heap.size := F.2.2.2.2.2.2.2.1
theorem Fx.lk (F : Fx K cc own nL) : (fMe K).locks = false := F.2.2.2.2.2.2.2.2.1
theorem Fx.tr (F : Fx K cc own nL) : (fL K).stackTraces = false := F.2.2.2.2.2.2.2.2.2.1
theorem Fx.n (F : Fx K cc own nL) : fN K = nL := F.2.2.2.2.2.2.2.2.2.2
theorem Go.less (lv' : List (Option Value)) (hl : ∀ (i : Nat) (v : Value), lv'[i]? = some (some v) → lv[i]? = some (some v)) (k : Go K cells slots σ pc lv' st) : Go K cells slots σ pc lv st := fun H locs ls hC hD hS hL => k H locs ls hC hD hS (hL.less hl)
theorem Go.eq {pc' : Nat} {st' : List Value} {σ' : Mem} (h1 : σ = σ') (h2 : pc = pc') (h3 : lv = lv') (h4 : st = st') (k : Go K cells slots σ' pc' lv' st') : Go K cells slots σ pc lv st := by subst h1; subst h2; subst h3; subst h4; exact k
theorem Go.widen {k n : Nat} (h1 : cells ≤ k) (h2 : slots ≤ n) (kk : Go K k n σ pc lv st) : Go K cells slots σ pc lv st := fun H locs ls hC hD hS hL => W.widen h1 h2 (kk H locs ls hC hD hS hL)
def lle : List (Option Value) → List (Option Value) → Prop
  | [], _ => True
  | none :: r, _ :: r2 => lle r r2
  | some v :: r, o :: r2 => o = some v ∧ lle r r2
  | _ :: _, [] => False
theorem lle_at : ∀ {lv' lv : List (Option Value)}, lle lv' lv → ∀ (i : Nat) (v : Value), lv'[i]? = some (some v) → lv[i]? = some (some v)
  | [], _, _, i, v, h => by simp at h
  | none :: r, o :: r2, h, i, v, hv => by
    cases i with
    | zero => simp at hv
    | succ i => simpa using lle_at (lv' := r) (lv := r2) h i v (by simpa using hv)
  | some w :: r, o :: r2, h, i, v, hv => by
    cases i with
    | zero =>
      simp only [List.getElem?_cons_zero, Option.some.injEq] at hv ⊢
      rw [h.1, hv]
    | succ i => simpa using lle_at (lv' := r) (lv := r2) h.2 i v (by simpa using hv)
theorem Go.lle (lv' : List (Option Value)) (hl : lle lv' lv) (k : Go K cells slots σ pc lv' st) : Go K cells slots σ pc lv st := k.less lv' (lle_at hl)
theorem g_iconst (F : Fx K cc own nL) {n : Int} {v : Int32} (hdg : decode cc pc = .ok (.iconst n, 1)) (hv : Int32.ofInt n = v) {np : Nat} (hp : pc + 1 = np) (kk : Go K cells slots σ np lv (.int v :: st)) : Go K cells slots σ pc lv st := by
  subst hp
  exact fun H locs ls hC hD hS hL => lv_iconst F.x F.b hdg hv (kk H locs ls hC hD hS hL)
theorem g_bipush (F : Fx K cc own nL) {n : Int} {v : Int32} (hdg : decode cc pc = .ok (.bipush n, 2)) (hv : (Int8.ofInt n).toInt32 = v) {np : Nat} (hp : pc + 2 = np) (kk : Go K cells slots σ np lv (.int v :: st)) : Go K cells slots σ pc lv st := by
  subst hp
  exact fun H locs ls hC hD hS hL => lv_bipush F.x F.b hdg hv (kk H locs ls hC hD hS hL)
theorem g_sipush (F : Fx K cc own nL) {n : Int} {v : Int32} (hdg : decode cc pc = .ok (.sipush n, 3)) (hv : (Int16.ofInt n).toInt32 = v) {np : Nat} (hp : pc + 3 = np) (kk : Go K cells slots σ np lv (.int v :: st)) : Go K cells slots σ pc lv st := by
  subst hp
  exact fun H locs ls hC hD hS hL => lv_sipush F.x F.b hdg hv (kk H locs ls hC hD hS hL)
theorem g_ldc (F : Fx K cc own nL) {i : Nat} {v : Int32} (hc : Jvm.Cond.constant own i v ∈ lw_good) (hdg : decode cc pc = .ok (.ldc i, 2)) {np : Nat} (hp : pc + 2 = np) (kk : Go K cells slots σ np lv (.int v :: st)) : Go K cells slots σ pc lv st := by
  subst hp
  exact fun H locs ls hC hD hS hL => lv_ldc F.x F.b F.o (F.w _ hc) hdg (kk H locs ls hC hD hS hL)
theorem g_iload_n (F : Fx K cc own nL) {k : Fin 4} {v : Int32} (hdg : decode cc pc = .ok (.iload_n k, 1)) (hl : lv[(k : Nat)]? = some (some (.int v))) {np : Nat} (hp : pc + 1 = np) (kk : Go K cells slots σ np lv (.int v :: st)) : Go K cells slots σ pc lv st := by
  subst hp
  exact fun H locs ls hC hD hS hL => lv_iload_n F.x F.b hdg rfl (hL.2.2 _ _ hl) (kk H locs ls hC hD hS hL)
theorem g_iload (F : Fx K cc own nL) {k : Nat} {v : Int32} (hdg : decode cc pc = .ok (.iload k, 2)) (hl : lv[k]? = some (some (.int v))) {np : Nat} (hp : pc + 2 = np) (kk : Go K cells slots σ np lv (.int v :: st)) : Go K cells slots σ pc lv st := by
  subst hp
  exact fun H locs ls hC hD hS hL => lv_iload F.x F.b hdg (hL.2.2 _ _ hl) (kk H locs ls hC hD hS hL)
theorem g_istore_n (F : Fx K cc own nL) {k : Fin 4} {v : Int32} (hdg : decode cc pc = .ok (.istore_n k, 1)) (hn : (k : Nat) < nL) (hc : lvc lv k = true) (hl : lv.set k (some (.int v)) = lv') {np : Nat} (hp : pc + 1 = np) (kk : Go K cells slots σ np lv' st) : Go K cells slots σ pc lv (.int v :: st) := by
  subst hp
  exact fun H locs ls hC hD hS hL => lv_istore_n F.x F.b hdg rfl hL.has (by rw [F.n]; exact hn) rfl (fun ls2 hL2 => kk H locs ls2 hC hD hS (Lh.put hc hl hL2))
theorem g_istore (F : Fx K cc own nL) {k : Nat} {v : Int32} (hdg : decode cc pc = .ok (.istore k, 2)) (hn : k < nL) (hc : lvc lv k = true) (hl : lv.set k (some (.int v)) = lv') {np : Nat} (hp : pc + 2 = np) (kk : Go K cells slots σ np lv' st) : Go K cells slots σ pc lv (.int v :: st) := by
  subst hp
  exact fun H locs ls hC hD hS hL => lv_istore F.x F.b hdg hL.has (by rw [F.n]; exact hn) rfl (fun ls2 hL2 => kk H locs ls2 hC hD hS (Lh.put hc hl hL2))
theorem g_aload_n (F : Fx K cc own nL) {k : Fin 4} {v : Nat} (hdg : decode cc pc = .ok (.aload_n k, 1)) (hl : lv[(k : Nat)]? = some (some (.ref v))) {np : Nat} (hp : pc + 1 = np) (kk : Go K cells slots σ np lv (.ref v :: st)) : Go K cells slots σ pc lv st := by
  subst hp
  exact fun H locs ls hC hD hS hL => lv_aload_n F.x F.b hdg rfl (hL.2.2 _ _ hl) (kk H locs ls hC hD hS hL)
theorem g_aload (F : Fx K cc own nL) {k : Nat} {v : Nat} (hdg : decode cc pc = .ok (.aload k, 2)) (hl : lv[k]? = some (some (.ref v))) {np : Nat} (hp : pc + 2 = np) (kk : Go K cells slots σ np lv (.ref v :: st)) : Go K cells slots σ pc lv st := by
  subst hp
  exact fun H locs ls hC hD hS hL => lv_aload F.x F.b hdg (hL.2.2 _ _ hl) (kk H locs ls hC hD hS hL)
theorem g_astore_n (F : Fx K cc own nL) {k : Fin 4} {v : Nat} (hdg : decode cc pc = .ok (.astore_n k, 1)) (hn : (k : Nat) < nL) (hc : lvc lv k = true) (hl : lv.set k (some (.ref v)) = lv') {np : Nat} (hp : pc + 1 = np) (kk : Go K cells slots σ np lv' st) : Go K cells slots σ pc lv (.ref v :: st) := by
  subst hp
  exact fun H locs ls hC hD hS hL => lv_astore_n F.x F.b hdg rfl hL.has (by rw [F.n]; exact hn) rfl (fun ls2 hL2 => kk H locs ls2 hC hD hS (Lh.put hc hl hL2))
theorem g_astore (F : Fx K cc own nL) {k : Nat} {v : Nat} (hdg : decode cc pc = .ok (.astore k, 2)) (hn : k < nL) (hc : lvc lv k = true) (hl : lv.set k (some (.ref v)) = lv') {np : Nat} (hp : pc + 2 = np) (kk : Go K cells slots σ np lv' st) : Go K cells slots σ pc lv (.ref v :: st) := by
  subst hp
  exact fun H locs ls hC hD hS hL => lv_astore F.x F.b hdg hL.has (by rw [F.n]; exact hn) rfl (fun ls2 hL2 => kk H locs ls2 hC hD hS (Lh.put hc hl hL2))
theorem lvl_at {lv : List (Option Value)} {i : Nat} {v : Value} (h : lv[i]? = some (some v)) : ∃ k : Nat, (lvl lv)[k]? = some (i, v) := List.getElem?_of_mem (lvl_mem.mpr h)
theorem g_iinc (F : Fx K cc own nL) {i : Nat} {n : Int} {a v : Int32} (hdg : decode cc pc = .ok (.iinc i n, 3)) (hk : lv[i]? = some (some (.int a))) (hv : a + Int32.ofInt n = v) (hn : i < nL) (hc : lvc lv i = true) (hl : lv.set i (some (.int v)) = lv') {np : Nat} (hp : pc + 3 = np) (kk : Go K cells slots σ np lv' st) : Go K cells slots σ pc lv st := by
  subst hp
  intro H locs ls hC hD hS hL
  obtain ⟨k, hk⟩ := lvl_at hk
  exact lv_iinc F.x F.b hdg hL.has hk hv (by rw [F.n]; exact hn) rfl (fun ls2 hL2 => kk H locs ls2 hC hD hS (Lh.put hc hl hL2))
theorem g_iadd (F : Fx K cc own nL) {a b : Int32} (hdg : decode cc pc = .ok (.iadd, 1)) {np : Nat} (hp : pc + 1 = np) (kk : Go K cells slots σ np lv (.int (a + b) :: st)) : Go K cells slots σ pc lv (.int b :: .int a :: st) := by
  subst hp
  exact fun H locs ls hC hD hS hL => lv_iadd F.x F.b hdg (kk H locs ls hC hD hS hL)
theorem g_isub (F : Fx K cc own nL) {a b : Int32} (hdg : decode cc pc = .ok (.isub, 1)) {np : Nat} (hp : pc + 1 = np) (kk : Go K cells slots σ np lv (.int (a - b) :: st)) : Go K cells slots σ pc lv (.int b :: .int a :: st) := by
  subst hp
  exact fun H locs ls hC hD hS hL => lv_isub F.x F.b hdg (kk H locs ls hC hD hS hL)
theorem g_imul (F : Fx K cc own nL) {a b : Int32} (hdg : decode cc pc = .ok (.imul, 1)) {np : Nat} (hp : pc + 1 = np) (kk : Go K cells slots σ np lv (.int (a * b) :: st)) : Go K cells slots σ pc lv (.int b :: .int a :: st) := by
  subst hp
  exact fun H locs ls hC hD hS hL => lv_imul F.x F.b hdg (kk H locs ls hC hD hS hL)
theorem g_iand (F : Fx K cc own nL) {a b : Int32} (hdg : decode cc pc = .ok (.iand, 1)) {np : Nat} (hp : pc + 1 = np) (kk : Go K cells slots σ np lv (.int (a &&& b) :: st)) : Go K cells slots σ pc lv (.int b :: .int a :: st) := by
  subst hp
  exact fun H locs ls hC hD hS hL => lv_iand F.x F.b hdg (kk H locs ls hC hD hS hL)
theorem g_ixor (F : Fx K cc own nL) {a b : Int32} (hdg : decode cc pc = .ok (.ixor, 1)) {np : Nat} (hp : pc + 1 = np) (kk : Go K cells slots σ np lv (.int (a ^^^ b) :: st)) : Go K cells slots σ pc lv (.int b :: .int a :: st) := by
  subst hp
  exact fun H locs ls hC hD hS hL => lv_ixor F.x F.b hdg (kk H locs ls hC hD hS hL)
theorem g_ior (F : Fx K cc own nL) {a b : Int32} (hdg : decode cc pc = .ok (.ior, 1)) {np : Nat} (hp : pc + 1 = np) (kk : Go K cells slots σ np lv (.int (a ||| b) :: st)) : Go K cells slots σ pc lv (.int b :: .int a :: st) := by
  subst hp
  exact fun H locs ls hC hD hS hL => lv_ior F.x F.b hdg (kk H locs ls hC hD hS hL)
theorem g_ishl (F : Fx K cc own nL) {a b : Int32} (hdg : decode cc pc = .ok (.ishl, 1)) {np : Nat} (hp : pc + 1 = np) (kk : Go K cells slots σ np lv (.int (a <<< (b &&& 31)) :: st)) : Go K cells slots σ pc lv (.int b :: .int a :: st) := by
  subst hp
  exact fun H locs ls hC hD hS hL => lv_ishl F.x F.b hdg (kk H locs ls hC hD hS hL)
theorem g_ishr (F : Fx K cc own nL) {a b : Int32} (hdg : decode cc pc = .ok (.ishr, 1)) {np : Nat} (hp : pc + 1 = np) (kk : Go K cells slots σ np lv (.int (a >>> (b &&& 31)) :: st)) : Go K cells slots σ pc lv (.int b :: .int a :: st) := by
  subst hp
  exact fun H locs ls hC hD hS hL => lv_ishr F.x F.b hdg (kk H locs ls hC hD hS hL)
theorem g_idiv (F : Fx K cc own nL) {a b : Int32} (hdg : decode cc pc = .ok (.idiv, 1)) (hne : ¬ b = 0) {np : Nat} (hp : pc + 1 = np) (kk : Go K cells slots σ np lv (.int (a / b) :: st)) : Go K cells slots σ pc lv (.int b :: .int a :: st) := by
  subst hp
  exact fun H locs ls hC hD hS hL => lv_idiv F.x F.b hdg hne (kk H locs ls hC hD hS hL)
theorem g_irem (F : Fx K cc own nL) {a b : Int32} (hdg : decode cc pc = .ok (.irem, 1)) (hne : ¬ b = 0) {np : Nat} (hp : pc + 1 = np) (kk : Go K cells slots σ np lv (.int (a - a / b * b) :: st)) : Go K cells slots σ pc lv (.int b :: .int a :: st) := by
  subst hp
  exact fun H locs ls hC hD hS hL => lv_irem F.x F.b hdg hne (kk H locs ls hC hD hS hL)
theorem g_ineg (F : Fx K cc own nL) {a : Int32} (hdg : decode cc pc = .ok (.ineg, 1)) {np : Nat} (hp : pc + 1 = np) (kk : Go K cells slots σ np lv (.int (-a) :: st)) : Go K cells slots σ pc lv (.int a :: st) := by
  subst hp
  exact fun H locs ls hC hD hS hL => lv_ineg F.x F.b hdg (kk H locs ls hC hD hS hL)
theorem g_i2c (F : Fx K cc own nL) {a v : Int32} (hdg : decode cc pc = .ok (.i2c, 1)) (hv : (a.toUInt32 % 65536).toInt32 = v) {np : Nat} (hp : pc + 1 = np) (kk : Go K cells slots σ np lv (.int v :: st)) : Go K cells slots σ pc lv (.int a :: st) := by
  subst hp
  exact fun H locs ls hC hD hS hL => lv_i2c F.x F.b hdg hv (kk H locs ls hC hD hS hL)
theorem g_pop (F : Fx K cc own nL) {va : Value} (hdg : decode cc pc = .ok (.pop, 1)) (hva : va.category = 1) {np : Nat} (hp : pc + 1 = np) (kk : Go K cells slots σ np lv st) : Go K cells slots σ pc lv (va :: st) := by
  subst hp
  exact fun H locs ls hC hD hS hL => lv_pop F.x F.b hdg hva (kk H locs ls hC hD hS hL)
theorem g_dup (F : Fx K cc own nL) {va : Value} (hdg : decode cc pc = .ok (.dup, 1)) (hva : va.category = 1) {np : Nat} (hp : pc + 1 = np) (kk : Go K cells slots σ np lv (va :: va :: st)) : Go K cells slots σ pc lv (va :: st) := by
  subst hp
  exact fun H locs ls hC hD hS hL => lv_dup F.x F.b hdg hva (kk H locs ls hC hD hS hL)
theorem g_dup2 (F : Fx K cc own nL) {va vb : Value} (hdg : decode cc pc = .ok (.dup2, 1)) (hva : va.category = 1) (hvb : vb.category = 1) {np : Nat} (hp : pc + 1 = np) (kk : Go K cells slots σ np lv (va :: vb :: va :: vb :: st)) : Go K cells slots σ pc lv (va :: vb :: st) := by
  subst hp
  exact fun H locs ls hC hD hS hL => lv_dup2_11 F.x F.b hdg hva hvb (kk H locs ls hC hD hS hL)
theorem g_dup_x1 (F : Fx K cc own nL) {va vb : Value} (hdg : decode cc pc = .ok (.dup_x1, 1)) (hva : va.category = 1) (hvb : vb.category = 1) {np : Nat} (hp : pc + 1 = np) (kk : Go K cells slots σ np lv (va :: vb :: va :: st)) : Go K cells slots σ pc lv (va :: vb :: st) := by
  subst hp
  exact fun H locs ls hC hD hS hL => lv_dup_x1 F.x F.b hdg hva hvb (kk H locs ls hC hD hS hL)
theorem g_if_eq (F : Fx K cc own nL) {a : Int32} {off : Int} {tgt : Nat} (hdg : decode cc pc = .ok (.ifCond .eq off, 3)) (ht : (pc : Int) + off = (tgt : Int)) {np : Nat} (hp : pc + 3 = np) (kt : a = 0 → Go K cells slots σ tgt lv st) (kf : ¬ a = 0 → Go K cells slots σ np lv st) : Go K cells slots σ pc lv (.int a :: st) := by
  subst hp
  exact fun H locs ls hC hD hS hL => lv_if_eq F.x F.b hdg ht (fun q => kt q H locs ls hC hD hS hL) (fun q => kf q H locs ls hC hD hS hL)
theorem g_if_ne (F : Fx K cc own nL) {a : Int32} {off : Int} {tgt : Nat} (hdg : decode cc pc = .ok (.ifCond .ne off, 3)) (ht : (pc : Int) + off = (tgt : Int)) {np : Nat} (hp : pc + 3 = np) (kt : ¬ a = 0 → Go K cells slots σ tgt lv st) (kf : a = 0 → Go K cells slots σ np lv st) : Go K cells slots σ pc lv (.int a :: st) := by
  subst hp
  exact fun H locs ls hC hD hS hL => lv_if_ne F.x F.b hdg ht (fun q => kt q H locs ls hC hD hS hL) (fun q => kf q H locs ls hC hD hS hL)
theorem g_if_lt (F : Fx K cc own nL) {a : Int32} {off : Int} {tgt : Nat} (hdg : decode cc pc = .ok (.ifCond .lt off, 3)) (ht : (pc : Int) + off = (tgt : Int)) {np : Nat} (hp : pc + 3 = np) (kt : a < 0 → Go K cells slots σ tgt lv st) (kf : ¬ a < 0 → Go K cells slots σ np lv st) : Go K cells slots σ pc lv (.int a :: st) := by
  subst hp
  exact fun H locs ls hC hD hS hL => lv_if_lt F.x F.b hdg ht (fun q => kt q H locs ls hC hD hS hL) (fun q => kf q H locs ls hC hD hS hL)
theorem g_if_ge (F : Fx K cc own nL) {a : Int32} {off : Int} {tgt : Nat} (hdg : decode cc pc = .ok (.ifCond .ge off, 3)) (ht : (pc : Int) + off = (tgt : Int)) {np : Nat} (hp : pc + 3 = np) (kt : 0 ≤ a → Go K cells slots σ tgt lv st) (kf : ¬ 0 ≤ a → Go K cells slots σ np lv st) : Go K cells slots σ pc lv (.int a :: st) := by
  subst hp
  exact fun H locs ls hC hD hS hL => lv_if_ge F.x F.b hdg ht (fun q => kt q H locs ls hC hD hS hL) (fun q => kf q H locs ls hC hD hS hL)
theorem g_if_gt (F : Fx K cc own nL) {a : Int32} {off : Int} {tgt : Nat} (hdg : decode cc pc = .ok (.ifCond .gt off, 3)) (ht : (pc : Int) + off = (tgt : Int)) {np : Nat} (hp : pc + 3 = np) (kt : 0 < a → Go K cells slots σ tgt lv st) (kf : ¬ 0 < a → Go K cells slots σ np lv st) : Go K cells slots σ pc lv (.int a :: st) := by
  subst hp
  exact fun H locs ls hC hD hS hL => lv_if_gt F.x F.b hdg ht (fun q => kt q H locs ls hC hD hS hL) (fun q => kf q H locs ls hC hD hS hL)
theorem g_if_le (F : Fx K cc own nL) {a : Int32} {off : Int} {tgt : Nat} (hdg : decode cc pc = .ok (.ifCond .le off, 3)) (ht : (pc : Int) + off = (tgt : Int)) {np : Nat} (hp : pc + 3 = np) (kt : a ≤ 0 → Go K cells slots σ tgt lv st) (kf : ¬ a ≤ 0 → Go K cells slots σ np lv st) : Go K cells slots σ pc lv (.int a :: st) := by
  subst hp
  exact fun H locs ls hC hD hS hL => lv_if_le F.x F.b hdg ht (fun q => kt q H locs ls hC hD hS hL) (fun q => kf q H locs ls hC hD hS hL)
theorem g_icmp_eq (F : Fx K cc own nL) {a b : Int32} {off : Int} {tgt : Nat} (hdg : decode cc pc = .ok (.if_icmp .eq off, 3)) (ht : (pc : Int) + off = (tgt : Int)) {np : Nat} (hp : pc + 3 = np) (kt : a = b → Go K cells slots σ tgt lv st) (kf : ¬ a = b → Go K cells slots σ np lv st) : Go K cells slots σ pc lv (.int b :: .int a :: st) := by
  subst hp
  exact fun H locs ls hC hD hS hL => lv_icmp_eq F.x F.b hdg ht (fun q => kt q H locs ls hC hD hS hL) (fun q => kf q H locs ls hC hD hS hL)
theorem g_icmp_ne (F : Fx K cc own nL) {a b : Int32} {off : Int} {tgt : Nat} (hdg : decode cc pc = .ok (.if_icmp .ne off, 3)) (ht : (pc : Int) + off = (tgt : Int)) {np : Nat} (hp : pc + 3 = np) (kt : ¬ a = b → Go K cells slots σ tgt lv st) (kf : a = b → Go K cells slots σ np lv st) : Go K cells slots σ pc lv (.int b :: .int a :: st) := by
  subst hp
  exact fun H locs ls hC hD hS hL => lv_icmp_ne F.x F.b hdg ht (fun q => kt q H locs ls hC hD hS hL) (fun q => kf q H locs ls hC hD hS hL)
theorem g_icmp_lt (F : Fx K cc own nL) {a b : Int32} {off : Int} {tgt : Nat} (hdg : decode cc pc = .ok (.if_icmp .lt off, 3)) (ht : (pc : Int) + off = (tgt : Int)) {np : Nat} (hp : pc + 3 = np) (kt : a < b → Go K cells slots σ tgt lv st) (kf : ¬ a < b → Go K cells slots σ np lv st) : Go K cells slots σ pc lv (.int b :: .int a :: st) := by
  subst hp
  exact fun H locs ls hC hD hS hL => lv_icmp_lt F.x F.b hdg ht (fun q => kt q H locs ls hC hD hS hL) (fun q => kf q H locs ls hC hD hS hL)
theorem g_icmp_ge (F : Fx K cc own nL) {a b : Int32} {off : Int} {tgt : Nat} (hdg : decode cc pc = .ok (.if_icmp .ge off, 3)) (ht : (pc : Int) + off = (tgt : Int)) {np : Nat} (hp : pc + 3 = np) (kt : b ≤ a → Go K cells slots σ tgt lv st) (kf : ¬ b ≤ a → Go K cells slots σ np lv st) : Go K cells slots σ pc lv (.int b :: .int a :: st) := by
  subst hp
  exact fun H locs ls hC hD hS hL => lv_icmp_ge F.x F.b hdg ht (fun q => kt q H locs ls hC hD hS hL) (fun q => kf q H locs ls hC hD hS hL)
theorem g_icmp_gt (F : Fx K cc own nL) {a b : Int32} {off : Int} {tgt : Nat} (hdg : decode cc pc = .ok (.if_icmp .gt off, 3)) (ht : (pc : Int) + off = (tgt : Int)) {np : Nat} (hp : pc + 3 = np) (kt : b < a → Go K cells slots σ tgt lv st) (kf : ¬ b < a → Go K cells slots σ np lv st) : Go K cells slots σ pc lv (.int b :: .int a :: st) := by
  subst hp
  exact fun H locs ls hC hD hS hL => lv_icmp_gt F.x F.b hdg ht (fun q => kt q H locs ls hC hD hS hL) (fun q => kf q H locs ls hC hD hS hL)
theorem g_icmp_le (F : Fx K cc own nL) {a b : Int32} {off : Int} {tgt : Nat} (hdg : decode cc pc = .ok (.if_icmp .le off, 3)) (ht : (pc : Int) + off = (tgt : Int)) {np : Nat} (hp : pc + 3 = np) (kt : a ≤ b → Go K cells slots σ tgt lv st) (kf : ¬ a ≤ b → Go K cells slots σ np lv st) : Go K cells slots σ pc lv (.int b :: .int a :: st) := by
  subst hp
  exact fun H locs ls hC hD hS hL => lv_icmp_le F.x F.b hdg ht (fun q => kt q H locs ls hC hD hS hL) (fun q => kf q H locs ls hC hD hS hL)
theorem g_goto (F : Fx K cc own nL) {off : Int} {tgt : Nat} (hdg : decode cc pc = .ok (.goto off, 3)) (ht : (pc : Int) + off = (tgt : Int)) (kk : Go K cells slots σ tgt lv st) : Go K cells slots σ pc lv st := fun H locs ls hC hD hS hL => lv_goto F.x F.b hdg ht (kk H locs ls hC hD hS hL)
/-- getfield of a world's object -/
theorem g_get (F : Fx K cc own nL) (f k : Nat) (hk : k < oCnt (fX K) f) {a : Nat} (ha : adr (fX K) σ f k = a) {ci : Nat} {fs : List Value} (he : el (fX K) σ f k = .inr (ci, fs)) {C : String} {T : u_T} {N i : Nat} (hc : vwCl[ci]? = some (C, T, N)) (hin : ∀ w ∈ u_ws C T N, w ∈ lw_good) (kf : Nat) (hkf : kf < N) (hlink : Cond.fieldLink own i C (T kf).2.1 (T kf).2.2.1 ∈ lw_good) (hC1 : (T kf).1 = C) {v : Value} (hv : fs[kf]? = some v) (hdg : decode cc pc = .ok (.getfield i, 3)) {np : Nat} (hp : pc + 3 = np) (kk : Go K cells slots σ np lv (v :: st)) : Go K cells slots σ pc lv (.ref a :: st) := by
  subst hp
  intro H locs ls hC hD hS hL
  subst ha
  have hP : va_P (xD (fX K)) vwCl [(adr (fX K) σ f k, .inr (ci, fs))] H := by
    intro j q hq
    match j, hq with
    | 0, hq => cases hq; rw [← he]; exact hC f k hk
    | j + 1, hq => simp at hq
  exact va_get F.x F.b F.w hin F.o F.k hP 0 rfl hc kf hkf (F.w _ hlink) (by rw [hC1]; exact fun _ h => h) hv hdg (kk H locs ls hC hD hS hL)
/-- getfield of a nest mate's private field -/
theorem g_getN (F : Fx K cc own nL) (f k : Nat) (hk : k < oCnt (fX K) f) {a : Nat} (ha : adr (fX K) σ f k = a) {ci : Nat} {fs : List Value} (he : el (fX K) σ f k = .inr (ci, fs)) {C host : String} {T : u_T} {N i : Nat} (hc : vwCl[ci]? = some (C, T, N)) (hin : ∀ w ∈ u_ws C T N, w ∈ lw_good) (kf : Nat) (hkf : kf < N) (hlink : Cond.fieldLinkNest own i C (T kf).2.1 (T kf).2.2.1 host ∈ lw_tbl) (hC1 : (T kf).1 = C) {v : Value} (hv : fs[kf]? = some v) (hdg : decode cc pc = .ok (.getfield i, 3)) {np : Nat} (hp : pc + 3 = np) (kk : Go K cells slots σ np lv (v :: st)) : Go K cells slots σ pc lv (.ref a :: st) := by
  subst hp
  intro H locs ls hC hD hS hL
  subst ha
  have hP : va_P (xD (fX K)) vwCl [(adr (fX K) σ f k, .inr (ci, fs))] H := by
    intro j q hq
    match j, hq with
    | 0, hq => cases hq; rw [← he]; exact hC f k hk
    | j + 1, hq => simp at hq
  exact va_getN F.x F.b F.w hin F.o F.k hP 0 rfl hc kf hkf (va_Nw.use rfl (F.s.2.2.2.2.1 _ hlink rfl)) (by rw [hC1]; exact fun _ h => h) hv hdg (kk H locs ls hC hD hS hL)
/-- putfield of an int field -/
theorem g_put (F : Fx K cc own nL) (f k : Nat) (hk : k < oCnt (fX K) f) {a : Nat} (ha : adr (fX K) σ f k = a) {ci : Nat} {fs : List Value} (he : el (fX K) σ f k = .inr (ci, fs)) {C : String} {T : u_T} {N i : Nat} (hc : vwCl[ci]? = some (C, T, N)) (hin : ∀ w ∈ u_ws C T N, w ∈ lw_good) (ty0 : Nat → FieldType) (hty : ∀ k, k < N → parseFieldDescriptor (T k).2.2.1 = some (ty0 k)) (hnm : ∀ a, a < N → ∀ b, b < N → a ≠ b → (T a).2.1 ≠ (T b).2.1) (kf : Nat) (hkf : kf < N) (hlink : Cond.fieldLink own i C (T kf).2.1 (T kf).2.2.1 ∈ lw_good) (hC1 : (T kf).1 = C) (hfin : (T kf).2.2.2 = false) {v : Int32}
    {ty : FieldType} (hd : parseFieldDescriptor (T kf).2.2.1 = some ty) (hn : narrow ty (.int v) = .int v) (hfit : fits ty (.int v) = true) (hl : kf < fs.length) (he2 : el (fX K) (wr σ f k kf v) f k = .inr (ci, fs.set kf (.int v))) (hdg : decode cc pc = .ok (.putfield i, 3)) {np : Nat} (hp : pc + 3 = np) (kk : Go K cells slots (wr σ f k kf v) np lv st) : Go K cells slots σ pc lv (.int v :: .ref a :: st) := by
  subst hp
  intro H locs ls hC hD hS hL
  subst ha
  obtain ⟨q0, hq0⟩ := ws_at (fX K) σ hk
  refine va_put F.x F.b F.w hin ty0 hty hnm F.o F.k (ws_P hC) (ws_D hD) hS q0 (hq0.trans (by rw [he])) hc kf hkf (F.w _ hlink) (by rw [hC1]; exact fun _ h => h) hfin hd hn hfit hl hdg (fun H1 locs1 hP1 _ hS1 => ?_)
  exact kk H1 locs1 ls (cells_set hD hk hq0 hP1 he2 (fun f' k' hne => el_wr_ne hne) (fun f' k' => adr_wr _ _ _ _ _ _ _ _)) (hD.same (fun f' k' => adr_wr _ _ _ _ _ _ _ _)) hS1 hL
theorem upd_rd {g : Nat → Int32} {σ : Mem} {f k s : Nat} {v : Int32} (h : g = fun j => rd σ f k j) : (fun j => rd (wr σ f k s v) f k j) = upd g s v := by
  subst h
  funext j
  unfold upd
  rw [rd_wr]
  by_cases hj : j = s
  · rw [if_pos ⟨rfl, rfl, hj⟩, if_pos hj]
  · rw [if_neg (fun e => hj e.2.2), if_neg hj]
/-- int arrays of the world -/
theorem g_iald (F : Fx K cc own nL) (f k : Nat) (hk : k < oCnt (fX K) f) {a : Nat} (ha : adr (fX K) σ f k = a) {n : Nat} (he : el (fX K) σ f k = .inl (xct (fX K) 0, n, .inl (fun j => rd σ f k j))) {i : Int32} (hin : vp_in i n) (hdg : decode cc pc = .ok (.iaload, 1)) {np : Nat} (hp : pc + 1 = np) (kk : Go K cells slots σ np lv (.int (rd σ f k i.toNatClampNeg) :: st)) : Go K cells slots σ pc lv (.int i :: .ref a :: st) := by
  subst hp
  intro H locs ls hC hD hS hL
  subst ha
  have hP : va_P (xD (fX K)) vwCl [(adr (fX K) σ f k, .inl (xct (fX K) 0, n, .inl (fun j => rd σ f k j)))] H := by
    intro j q hq
    match j, hq with
    | 0, hq => cases hq; rw [← he]; exact hC f k hk
    | j + 1, hq => simp at hq
  exact va_iald F.x F.b F.k hP 0 0 rfl rfl hin hdg (kk H locs ls hC hD hS hL)
theorem g_iast (F : Fx K cc own nL) (f k : Nat) (hk : k < oCnt (fX K) f) {a : Nat} (ha : adr (fX K) σ f k = a) {n : Nat} (he : ∀ τ : Mem, τ.2 = σ.2 → el (fX K) τ f k = .inl (xct (fX K) 0, n, .inl (fun j => rd τ f k j))) {i v : Int32} (hin : vp_in i n) (hdg : decode cc pc = .ok (.iastore, 1)) {np : Nat} (hp : pc + 1 = np) (kk : Go K cells slots (wr σ f k i.toNatClampNeg v) np lv st) : Go K cells slots σ pc lv (.int v :: .int i :: .ref a :: st) := by
  subst hp
  intro H locs ls hC hD hS hL
  subst ha
  obtain ⟨q0, hq0⟩ := ws_at (fX K) σ hk
  refine va_iast F.x F.b F.k (ws_P hC) (ws_D hD) hS q0 0 (hq0.trans (by rw [he σ rfl])) rfl hin hdg (fun H1 locs1 hP1 _ hS1 => ?_)
  exact kk H1 locs1 ls (cells_set hD hk hq0 hP1 (by rw [he (wr σ f k i.toNatClampNeg v) rfl, upd_rd rfl]) (fun f' k' hne => el_wr_ne hne) (fun f' k' => adr_wr _ _ _ _ _ _ _ _)) (hD.same (fun f' k' => adr_wr _ _ _ _ _ _ _ _)) hS1 hL
theorem g_alen (F : Fx K cc own nL) (f k : Nat) (hk : k < oCnt (fX K) f) {a : Nat} (ha : adr (fX K) σ f k = a) {cA : ClassId} {y : vp_A} (he : el (fX K) σ f k = .inl (cA, y)) {t0 : Nat} {ty : FieldType} (ht : (xtys (fX K))[t0]? = some (cA, ty)) {v : Int32} (hv : Int32.ofNat y.1 = v) (hdg : decode cc pc = .ok (.arraylength, 1)) {np : Nat} (hp : pc + 1 = np) (kk : Go K cells slots σ np lv (.int v :: st)) : Go K cells slots σ pc lv (.ref a :: st) := by
  subst hp
  intro H locs ls hC hD hS hL
  subst ha
  have hP : va_P (xD (fX K)) vwCl [(adr (fX K) σ f k, .inl (cA, y))] H := by
    intro j q hq
    match j, hq with
    | 0, hq => cases hq; rw [← he]; exact hC f k hk
    | j + 1, hq => simp at hq
  exact va_alen F.x F.b F.k hP 0 t0 rfl ht hv hdg (kk H locs ls hC hD hS hL)
end GO
