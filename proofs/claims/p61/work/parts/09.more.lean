/-! MORE ROWS: names, Math, System.arraycopy, constants of the enums; typed answers. -/
def RI (Q : Int32 → Mem → Prop) : Option Value → Mem → Prop := fun r σ => ∃ i : Int32, r = some (.int i) ∧ Q i σ
def RV (Q : Mem → Prop) : Option Value → Mem → Prop := fun r σ => r = none ∧ Q σ
def RD (Q : UInt64 → Mem → Prop) : Option Value → Mem → Prop := fun r σ => ∃ i : UInt64, r = some (.double i) ∧ Q i σ
def RF (Q : UInt32 → Mem → Prop) : Option Value → Mem → Prop := fun r σ => ∃ i : UInt32, r = some (.float i) ∧ Q i σ
def RE (x : Ctx) (Q : Nat → Mem → Prop) : Option Value → Mem → Prop := fun r σ => ∃ j : Nat, r = some (.ref (xen x 1 j)) ∧ j < 6 ∧ Q j σ
def RC (x : Ctx) (Q : Option Nat → Mem → Prop) : Option Value → Mem → Prop := fun r σ => ∃ o : Option Nat, r = some (va_rf (o.map (xen x 0))) ∧ (∀ j, o = some j → j < 9) ∧ Q o σ
/-- a row copied into a row -/
def cpm (σ : Mem) (f k g h sp dp n : Nat) : Mem := (fun f' k' s' => if f' = g ∧ k' = h then va_cpy (rd σ f k) (rd σ g h) sp dp n s' else σ.1 f' k' s', σ.2)
theorem rd_cpm (σ : Mem) (f k g h sp dp n f' k' s' : Nat) : rd (cpm σ f k g h sp dp n) f' k' s' = if f' = g ∧ k' = h then va_cpy (rd σ f k) (rd σ g h) sp dp n s' else rd σ f' k' s' := rfl
theorem el_cpm_ne {x : Ctx} {σ : Mem} {f k g h sp dp n f' k' : Nat} (hn : ¬ (f' = g ∧ k' = h)) : el x (cpm σ f k g h sp dp n) f' k' = el x σ f' k' := el_congr (fun s => by rw [rd_cpm, if_neg hn]) rfl
theorem vpl {i : Int32} {n : Nat} (h : (decide (0 ≤ i) && decide (i.toNatClampNeg < n)) = true) : vp_in i n := by
  simp only [Bool.and_eq_true, decide_eq_true_eq] at h
  intro hh
  rcases hh with h1 | h1
  · exact absurd h.1 (Int32.not_le.mpr h1)
  · omega
section GM
variable {K : Fr} {cells slots : Nat} {σ : Mem} {cc : ByteArray} {own : String} {nL pc : Nat} {lv lv' : List (Option Value)} {st : List Value}
theorem g_topi {a : Int32} (kk : ∀ y : Int32, y = a → Go K cells slots σ pc lv (.int y :: st)) : Go K cells slots σ pc lv (.int a :: st) := kk a rfl
theorem g_mem (kk : ∀ τ : Mem, τ = σ → Go K cells slots τ pc lv st) : Go K cells slots σ pc lv st := kk σ rfl
theorem g_mmin (F : Fx K cc own nL) {i : Nat} (hlink : Cond.methodLink own i Lib.Math.min.name ∈ lw_good) (hstat : Cond.static Lib.Math.min.name ∈ lw_good) (hini : Cond.initialized "java/lang/Math" ∈ lw_good) (hcode : Cond.code Lib.Math.min.name Lib.Math.min.code 2 (some .int) ∈ lw_good) {a b : Int32}
    (hfr : 1 ≤ (fR K).frames) (hlo : (st.map fun v => v.category).sum + 13 ≤ (fR K).locals) (hc : cells ≤ (fR K).cells) (hs : slots ≤ (fR K).slots) (hdg : decode cc pc = .ok (.invokestatic i, 3)) {np : Nat} (hp : pc + 3 = np) (kk : Go K cells slots σ np lv (.int (if b < a then b else a) :: st)) : Go K cells slots σ pc lv (.int b :: .int a :: st) := by
  subst hp
  exact fun H locs ls hC hD hS hL => va_mmin F.x F.b (F.ml.trans hL.1.symm) F.o (F.w _ hlink) (F.w _ hstat) (F.w _ hini) (F.w _ hcode) hfr hlo hc hs hdg (kk H locs ls hC hD hS hL)
theorem g_mmax (F : Fx K cc own nL) {i : Nat} (hlink : Cond.methodLink own i Lib.Math.max.name ∈ lw_good) (hstat : Cond.static Lib.Math.max.name ∈ lw_good) (hini : Cond.initialized "java/lang/Math" ∈ lw_good) (hcode : Cond.code Lib.Math.max.name Lib.Math.max.code 2 (some .int) ∈ lw_good) {a b : Int32}
    (hfr : 1 ≤ (fR K).frames) (hlo : (st.map fun v => v.category).sum + 13 ≤ (fR K).locals) (hc : cells ≤ (fR K).cells) (hs : slots ≤ (fR K).slots) (hdg : decode cc pc = .ok (.invokestatic i, 3)) {np : Nat} (hp : pc + 3 = np) (kk : Go K cells slots σ np lv (.int (if a < b then b else a) :: st)) : Go K cells slots σ pc lv (.int b :: .int a :: st) := by
  subst hp
  exact fun H locs ls hC hD hS hL => va_mmax F.x F.b (F.ml.trans hL.1.symm) F.o (F.w _ hlink) (F.w _ hstat) (F.w _ hini) (F.w _ hcode) hfr hlo hc hs hdg (kk H locs ls hC hD hS hL)
/-- int arrays at a written place -/
theorem g_ialdL (F : Fx K cc own nL) (f k : Nat) (hk : k < oCnt (fX K) f) {a : Nat} (ha : adr (fX K) σ f k = a) {n : Nat} (he : el (fX K) σ f k = .inl (xct (fX K) 0, n, .inl (fun j => rd σ f k j))) {i : Int32} (j : Nat) (hj : i.toNatClampNeg = j) (hin : vp_in i n) (hdg : decode cc pc = .ok (.iaload, 1)) {np : Nat} (hp : pc + 1 = np) (kk : Go K cells slots σ np lv (.int (rd σ f k j) :: st)) : Go K cells slots σ pc lv (.int i :: .ref a :: st) := by
  subst hp
  subst hj
  exact g_iald F f k hk ha he hin hdg rfl kk
theorem g_iastL (F : Fx K cc own nL) (f k : Nat) (hk : k < oCnt (fX K) f) {a : Nat} (ha : adr (fX K) σ f k = a) {n : Nat} (he : ∀ τ : Mem, τ.2 = σ.2 → el (fX K) τ f k = .inl (xct (fX K) 0, n, .inl (fun j => rd τ f k j))) {i v : Int32} (j : Nat) (hj : i.toNatClampNeg = j) (hin : vp_in i n) (hdg : decode cc pc = .ok (.iastore, 1)) {np : Nat} (hp : pc + 1 = np) (kk : Go K cells slots (wr σ f k j v) np lv st) : Go K cells slots σ pc lv (.int v :: .int i :: .ref a :: st) := by
  subst hp
  subst hj
  exact g_iast F f k hk ha he hin hdg rfl kk
/-- System.arraycopy among the rows of one kind -/
theorem g_copyi (F : Fx K cc own nL) {i : Nat} (hlink : Cond.methodLink own i arraycopyName ∈ lw_good) (hnat : Cond.native arraycopyName ∈ lw_good) (hstat : Cond.static arraycopyName ∈ lw_good) (hini : Cond.initialized "java/lang/System" ∈ lw_good)
    (f k k2 : Nat) (hk : k < oCnt (fX K) f) (hk2 : k2 < oCnt (fX K) f) {a0 a : Nat} (ha0 : adr (fX K) σ f k = a0) (ha : adr (fX K) σ f k2 = a) {n0 n1 : Nat} (he0 : el (fX K) σ f k = .inl (xct (fX K) 0, n0, .inl (rd σ f k))) (he : ∀ τ : Mem, τ.2 = σ.2 → el (fX K) τ f k2 = .inl (xct (fX K) 0, n1, .inl (fun j => rd τ f k2 j)))
    {sp dp n : Int32} (h1 : ¬ sp < 0) (h2 : ¬ dp < 0) (h3 : ¬ n < 0) (h4 : sp.toNatClampNeg + n.toNatClampNeg ≤ n0) (h5 : dp.toNatClampNeg + n.toNatClampNeg ≤ n1)
    (hfr : 1 ≤ (fR K).frames) (hlo : (st.map fun v => v.category).sum + (nativeFrameWords "java/lang/System" "arraycopy" 5 + 11) ≤ (fR K).locals) (hdg : decode cc pc = .ok (.invokestatic i, 3))
    {np : Nat} (hp : pc + 3 = np) (kk : Go K cells slots (cpm σ f k f k2 sp.toNatClampNeg dp.toNatClampNeg n.toNatClampNeg) np lv st) : Go K cells slots σ pc lv (.int n :: .int dp :: .ref a :: .int sp :: .ref a0 :: st) := by
  subst hp
  intro H locs ls hC hD hS hL
  subst ha0
  subst ha
  obtain ⟨q0, hq0⟩ := ws_at (fX K) σ hk
  obtain ⟨q1, hq1⟩ := ws_at (fX K) σ hk2
  refine va_copyi F.x F.b (F.ml.trans hL.1.symm) F.o (F.w _ hlink) (F.w _ hnat) (F.w _ hstat) (F.w _ hini) F.k (ws_P hC) (ws_D hD) hS q0 q1 0 0 (hq0.trans (by rw [he0])) (hq1.trans (by rw [he σ rfl])) rfl rfl rfl h1 h2 h3 h4 h5 (fun _ _ => rfl) hfr hlo hdg (fun H1 locs1 hP1 _ hS1 => ?_)
  refine kk H1 locs1 ls (cells_set hD hk2 hq1 hP1 ?_ (fun f' k' hne => el_cpm_ne hne) (fun f' k' => rfl)) (hD.same (fun f' k' => rfl)) hS1 hL
  rw [he (cpm σ f k f k2 sp.toNatClampNeg dp.toNatClampNeg n.toNatClampNeg) rfl]
  have : (fun j => rd (cpm σ f k f k2 sp.toNatClampNeg dp.toNatClampNeg n.toNatClampNeg) f k2 j) = va_cpy (rd σ f k) (fun j => rd σ f k2 j) sp.toNatClampNeg dp.toNatClampNeg n.toNatClampNeg := by
    funext j
    rw [rd_cpm, if_pos ⟨rfl, rfl⟩]
  rw [this]
/-- a constant of an enum from its static -/
theorem g_getCmd (F : Fx K cc own nL) (j : Nat) (hj : j < 9) {i : Nat} (hlink : Cond.fieldLink own i "YarnMill$Command" (cmNames.getD j "") "LYarnMill$Command;" ∈ lw_good) (hdg : decode cc pc = .ok (.getstatic i, 3)) {np : Nat} (hp : pc + 3 = np) (kk : Go K cells slots σ np lv (.ref (xen (fX K) 0 j) :: st)) : Go K cells slots σ pc lv st := by
  subst hp
  exact fun H locs ls hC hD hS hL => va_gets F.x F.b (F.s.1.1 j hj).1 hS F.o (F.w _ hlink) (fun _ h => h) hdg (kk H locs ls hC hD hS hL)
theorem g_getRef (F : Fx K cc own nL) (j : Nat) (hj : j < 6) {i : Nat} (hlink : Cond.fieldLink own i "YarnMill$Refusal" (rfNames.getD j "") "LYarnMill$Refusal;" ∈ lw_good) (hdg : decode cc pc = .ok (.getstatic i, 3)) {np : Nat} (hp : pc + 3 = np) (kk : Go K cells slots σ np lv (.ref (xen (fX K) 1 j) :: st)) : Go K cells slots σ pc lv st := by
  subst hp
  exact fun H locs ls hC hD hS hL => va_gets F.x F.b (F.s.2.1.1 j hj).1 hS F.o (F.w _ hlink) (fun _ h => h) hdg (kk H locs ls hC hD hS hL)
theorem g_getSwm (F : Fx K cc own nL) {i : Nat} (hlink : Cond.fieldLink own i "YarnMill$1" "$SwitchMap$YarnMill$Command" "[I" ∈ lw_good) (hdg : decode cc pc = .ok (.getstatic i, 3)) {np : Nat} (hp : pc + 3 = np) (kk : Go K cells slots σ np lv (.ref (xen (fX K) 2 0) :: st)) : Go K cells slots σ pc lv st := by
  subst hp
  exact fun H locs ls hC hD hS hL => va_gets F.x F.b F.s.2.2.1.1 hS F.o (F.w _ hlink) (fun _ h => h) hdg (kk H locs ls hC hD hS hL)
theorem g_swm (F : Fx K cc own nL) {j : Nat} (hj : j < 9) {i : Int32} (hi : i = nI j) (hdg : decode cc pc = .ok (.iaload, 1)) {np : Nat} (hp : pc + 1 = np) (kk : Go K cells slots σ np lv (.int (nI (j + 1)) :: st)) : Go K cells slots σ pc lv (.int i :: .ref (xen (fX K) 2 0) :: st) := by
  subst hp
  subst hi
  exact fun H locs ls hC hD hS hL => va_ti F.x F.b F.s.2.2.1.2 hS (vp_in_nI hj (by decide)) (by rw [nI_clamp (by omega)]) hdg (kk H locs ls hC hD hS hL)
theorem xen_inj (F : Fx K cc own nL) {a b : Nat} (ha : a < 6) (hb : b < 6) (h : xen (fX K) 1 a = xen (fX K) 1 b) : a = b := F.s.2.1.2 a b ha hb h
theorem g_acmpE_ne (F : Fx K cc own nL) {a b : Nat} (ha : a < 6) (hb : b < 6) {off : Int} {tgt : Nat} (hdg : decode cc pc = .ok (.if_acmp .ne off, 3)) (ht : (pc : Int) + off = (tgt : Int)) {np : Nat} (hp : pc + 3 = np) (kt : ¬ a = b → Go K cells slots σ tgt lv st) (kf : a = b → Go K cells slots σ np lv st) : Go K cells slots σ pc lv (.ref (xen (fX K) 1 b) :: .ref (xen (fX K) 1 a) :: st) := by
  subst hp
  exact fun H locs ls hC hD hS hL => lv_acmp_ne (rx := some (xen (fX K) 1 a)) (ry := some (xen (fX K) 1 b)) F.x F.b hdg ht (fun q => kt (fun e => q (by rw [e])) H locs ls hC hD hS hL) (fun q => kf (xen_inj F ha hb (Option.some.inj q)) H locs ls hC hD hS hL)
theorem g_acmpE_eq (F : Fx K cc own nL) {a b : Nat} (ha : a < 6) (hb : b < 6) {off : Int} {tgt : Nat} (hdg : decode cc pc = .ok (.if_acmp .eq off, 3)) (ht : (pc : Int) + off = (tgt : Int)) {np : Nat} (hp : pc + 3 = np) (kt : a = b → Go K cells slots σ tgt lv st) (kf : ¬ a = b → Go K cells slots σ np lv st) : Go K cells slots σ pc lv (.ref (xen (fX K) 1 b) :: .ref (xen (fX K) 1 a) :: st) := by
  subst hp
  exact fun H locs ls hC hD hS hL => lv_acmp_eq (rx := some (xen (fX K) 1 a)) (ry := some (xen (fX K) 1 b)) F.x F.b hdg ht (fun q => kt (xen_inj F ha hb (Option.some.inj q)) H locs ls hC hD hS hL) (fun q => kf (fun e => q (by rw [e])) H locs ls hC hD hS hL)
end GM
