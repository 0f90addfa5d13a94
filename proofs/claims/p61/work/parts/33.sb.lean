/-! BUILDERS, TEXTS, COMMANDS: rows over the world -/
theorem cmdO_nI {j : Nat} (h : j < 9) : cmdO (nI (j + 1)) = some j := by
  have : ∀ j : Nat, j < 9 → cmdO (nI (j + 1)) = some j := by decide +kernel
  exact this j h
section SBR
variable {K : Fr} {cells slots : Nat} {σ : Mem} {cc : ByteArray} {own : String} {nL pc : Nat} {lv lv' : List (Option Value)} {st : List Value}
/-- getfield, the field being its superclass's -/
theorem g_get2 (F : Fx K cc own nL) (f k : Nat) (hk : k < oCnt (fX K) f) {a : Nat} (ha : adr (fX K) σ f k = a) {ci : Nat} {fs : List Value} (he : el (fX K) σ f k = .inr (ci, fs)) {C : String} {T : u_T} {N i : Nat} (hc : vwCl[ci]? = some (C, T, N)) (hin : ∀ w ∈ u_ws C T N, w ∈ lw_good) (kf : Nat) (hkf : kf < N) (hlink : Cond.fieldLink own i (T kf).1 (T kf).2.1 (T kf).2.2.1 ∈ lw_good) {v : Value} (hv : fs[kf]? = some v) (hdg : decode cc pc = .ok (.getfield i, 3)) {np : Nat} (hp : pc + 3 = np) (kk : Go K cells slots σ np lv (v :: st)) : Go K cells slots σ pc lv (.ref a :: st) := by
  subst hp
  intro H locs ls hC hD hS hL
  subst ha
  have hP : va_P (xD (fX K)) vwCl [(adr (fX K) σ f k, .inr (ci, fs))] H := by
    intro j q hq
    match j, hq with
    | 0, hq => cases hq; rw [← he]; exact hC f k hk
    | j + 1, hq => simp at hq
  exact va_get F.x F.b F.w hin F.o F.k hP 0 rfl hc kf hkf (F.w _ hlink) (fun _ h => h) hv hdg (kk H locs ls hC hD hS hL)
theorem g_put2 (F : Fx K cc own nL) (f k : Nat) (hk : k < oCnt (fX K) f) {a : Nat} (ha : adr (fX K) σ f k = a) {ci : Nat} {fs : List Value} (he : el (fX K) σ f k = .inr (ci, fs)) {C : String} {T : u_T} {N i : Nat} (hc : vwCl[ci]? = some (C, T, N)) (hin : ∀ w ∈ u_ws C T N, w ∈ lw_good) (ty0 : Nat → FieldType) (hty : ∀ k, k < N → parseFieldDescriptor (T k).2.2.1 = some (ty0 k)) (hnm : ∀ a, a < N → ∀ b, b < N → a ≠ b → (T a).2.1 ≠ (T b).2.1) (kf : Nat) (hkf : kf < N) (hlink : Cond.fieldLink own i (T kf).1 (T kf).2.1 (T kf).2.2.1 ∈ lw_good) (hfin : (T kf).2.2.2 = false) {v : Int32}
    {ty : FieldType} (hd : parseFieldDescriptor (T kf).2.2.1 = some ty) (hn : narrow ty (.int v) = .int v) (hfit : fits ty (.int v) = true) (hl : kf < fs.length) (he2 : el (fX K) (wr σ f k kf v) f k = .inr (ci, fs.set kf (.int v))) (hdg : decode cc pc = .ok (.putfield i, 3)) {np : Nat} (hp : pc + 3 = np) (kk : Go K cells slots (wr σ f k kf v) np lv st) : Go K cells slots σ pc lv (.int v :: .ref a :: st) := by
  subst hp
  intro H locs ls hC hD hS hL
  subst ha
  obtain ⟨q0, hq0⟩ := ws_at (fX K) σ hk
  refine va_put F.x F.b F.w hin ty0 hty hnm F.o F.k (ws_P hC) (ws_D hD) hS q0 (hq0.trans (by rw [he])) hc kf hkf (F.w _ hlink) (fun _ h => h) hfin hd hn hfit hl hdg (fun H1 locs1 hP1 _ hS1 => ?_)
  exact kk H1 locs1 ls (cells_set hD hk hq0 hP1 he2 (fun f' k' hne => el_wr_ne hne) (fun f' k' => adr_wr _ _ _ _ _ _ _ _)) (hD.same (fun f' k' => adr_wr _ _ _ _ _ _ _ _)) hS1 hL
theorem el_16 (x : Ctx) (σ τ : Mem) (k : Nat) (h : τ.2 = σ.2) : el x τ 16 k = .inl (xct x 3, σ.2.2.1 k, .inl (fun j => rd τ 16 k j)) := by
  show (Sum.inl (xct x 3, τ.2.2.1 k, .inl (fun j => rd τ 16 k j)) : va_E) = _
  rw [h]
theorem adr_16 (x : Ctx) (σ : Mem) (k : Nat) : adr x σ 16 k = σ.2.1 k := rfl
theorem g_bald (F : Fx K cc own nL) (k : Nat) (hk : k < oCnt (fX K) 13) {i : Int32} (hin : vp_in i (σ.2.2.1 k)) (hdg : decode cc pc = .ok (.baload, 1)) {np : Nat} (hp : pc + 1 = np) (kk : Go K cells slots σ np lv (.int (rd σ 16 k i.toNatClampNeg) :: st)) : Go K cells slots σ pc lv (.int i :: .ref (σ.2.1 k) :: st) := by
  subst hp
  intro H locs ls hC hD hS hL
  have hP : va_P (xD (fX K)) vwCl [(adr (fX K) σ 16 k, .inl (xct (fX K) 3, σ.2.2.1 k, .inl (fun j => rd σ 16 k j)))] H := by
    intro j q hq
    match j, hq with
    | 0, hq => cases hq; rw [← el_16 (fX K) σ σ k rfl]; exact hC 16 k hk
    | j + 1, hq => simp at hq
  exact va_bald F.x F.b F.k hP 0 3 rfl rfl hin hdg (kk H locs ls hC hD hS hL)
theorem g_bast (F : Fx K cc own nL) (k : Nat) (hk : k < oCnt (fX K) 13) {i v : Int32} (hin : vp_in i (σ.2.2.1 k)) (hdg : decode cc pc = .ok (.bastore, 1)) {np : Nat} (hp : pc + 1 = np) (kk : Go K cells slots (wr σ 16 k i.toNatClampNeg (vp_nar .byte v)) np lv st) : Go K cells slots σ pc lv (.int v :: .int i :: .ref (σ.2.1 k) :: st) := by
  subst hp
  intro H locs ls hC hD hS hL
  obtain ⟨q0, hq0⟩ := ws_at (fX K) σ (f := 16) (k := k) hk
  refine va_bast F.x F.b F.k (ws_P hC) (ws_D hD) hS q0 3 (hq0.trans (by rw [el_16 (fX K) σ σ k rfl]; rfl)) rfl hin hdg (fun H1 locs1 hP1 _ hS1 => ?_)
  exact kk H1 locs1 ls (cells_set (f := 16) hD hk hq0 hP1 (by rw [el_16 (fX K) σ (wr σ 16 k i.toNatClampNeg (vp_nar .byte v)) k rfl, upd_rd rfl]) (fun f' k' hne => el_wr_ne hne) (fun f' k' => adr_wr _ _ _ _ _ _ _ _)) (hD.same (fun f' k' => adr_wr _ _ _ _ _ _ _ _)) hS1 hL
theorem g_alenB (F : Fx K cc own nL) (k : Nat) (hk : k < oCnt (fX K) 13) (hdg : decode cc pc = .ok (.arraylength, 1)) {np : Nat} (hp : pc + 1 = np) (kk : Go K cells slots σ np lv (.int (nI (σ.2.2.1 k)) :: st)) : Go K cells slots σ pc lv (.ref (σ.2.1 k) :: st) :=
  g_alen F 16 k hk rfl (el_16 (fX K) σ σ k rfl) (t0 := 3) rfl (v := nI (σ.2.2.1 k)) rfl hdg hp kk
theorem g_i2b (F : Fx K cc own nL) {a v : Int32} (hdg : decode cc pc = .ok (.i2b, 1)) (hv : a.toInt8.toInt32 = v) {np : Nat} (hp : pc + 1 = np) (kk : Go K cells slots σ np lv (.int v :: st)) : Go K cells slots σ pc lv (.int a :: st) := by
  subst hp
  exact fun H locs ls hC hD hS hL => lv_i2b F.x F.b hdg hv (kk H locs ls hC hD hS hL)
/-! texts -/
theorem g_strV (F : Fx K cc own nL) {j : Nat} (hj : j < 18) {i : Nat} (hlink : Cond.fieldLink own i "java/lang/String" "value" "[B" ∈ lw_good) (hdg : decode cc pc = .ok (.getfield i, 3)) {np : Nat} (hp : pc + 3 = np) (kk : Go K cells slots σ np lv (.ref (xen (fX K) 4 j) :: st)) : Go K cells slots σ pc lv (.ref (xen (fX K) 3 j) :: st) := by
  subst hp
  exact fun H locs ls hC hD hS hL => vk_getf F.x F.b (F.s.2.2.2.2.2.1 j hj).2.2.1 hS F.o (F.w _ hlink) (fun _ h => h) hdg (kk H locs ls hC hD hS hL)
theorem g_strC (F : Fx K cc own nL) {j : Nat} (hj : j < 18) {i : Nat} (hlink : Cond.fieldLink own i "java/lang/String" "coder" "B" ∈ lw_good) (hdg : decode cc pc = .ok (.getfield i, 3)) {np : Nat} (hp : pc + 3 = np) (kk : Go K cells slots σ np lv (.int 0 :: st)) : Go K cells slots σ pc lv (.ref (xen (fX K) 3 j) :: st) := by
  subst hp
  exact fun H locs ls hC hD hS hL => vk_getf F.x F.b (F.s.2.2.2.2.2.1 j hj).2.1 hS F.o (F.w _ hlink) (fun _ h => h) hdg (kk H locs ls hC hD hS hL)
theorem g_alenT (F : Fx K cc own nL) {j : Nat} (hj : j < 18) (hdg : decode cc pc = .ok (.arraylength, 1)) {np : Nat} (hp : pc + 1 = np) (kk : Go K cells slots σ np lv (.int (nI (stLen.getD j 0)) :: st)) : Go K cells slots σ pc lv (.ref (xen (fX K) 4 j) :: st) := by
  subst hp
  exact fun H locs ls hC hD hS hL => va_tlen F.x F.b (F.s.2.2.2.2.2.1 j hj).2.2.2 hS (v := nI (stLen.getD j 0)) rfl hdg (kk H locs ls hC hD hS hL)
theorem g_baldT (F : Fx K cc own nL) {j : Nat} (hj : j < 18) {i : Int32} (hin : vp_in i (stLen.getD j 0)) (hdg : decode cc pc = .ok (.baload, 1)) {np : Nat} (hp : pc + 1 = np) (kk : Go K cells slots σ np lv (.int ((stByt.getD j []).getD i.toNatClampNeg 0) :: st)) : Go K cells slots σ pc lv (.int i :: .ref (xen (fX K) 4 j) :: st) := by
  subst hp
  exact fun H locs ls hC hD hS hL => va_tb F.x F.b (F.s.2.2.2.2.2.1 j hj).2.2.2 hS hin (v := .int ((stByt.getD j []).getD i.toNatClampNeg 0)) rfl hdg (kk H locs ls hC hD hS hL)
theorem g_compact (F : Fx K cc own nL) {i : Nat} (hlink : Cond.fieldLink own i "java/lang/String" "COMPACT_STRINGS" "Z" ∈ lw_good) (hdg : decode cc pc = .ok (.getstatic i, 3)) {np : Nat} (hp : pc + 3 = np) (kk : Go K cells slots σ np lv (.int 1 :: st)) : Go K cells slots σ pc lv st := by
  subst hp
  obtain ⟨-, -, -, -, -, -, h7, -⟩ := F.s.2.2.2.2.2
  exact fun H locs ls hC hD hS hL => va_gets F.x F.b h7 hS F.o (F.w _ hlink) (fun _ h => h) hdg (kk H locs ls hC hD hS hL)
theorem g_digO (F : Fx K cc own nL) {i : Nat} (hlink : Cond.fieldLink own i "java/lang/Integer" "DigitOnes" "[B" ∈ lw_good) (hdg : decode cc pc = .ok (.getstatic i, 3)) {np : Nat} (hp : pc + 3 = np) (kk : Go K cells slots σ np lv (.ref (xen (fX K) 2 2) :: st)) : Go K cells slots σ pc lv st := by
  subst hp
  obtain ⟨-, -, -, -, -, -, -, h8, -⟩ := F.s.2.2.2.2.2
  exact fun H locs ls hC hD hS hL => va_gets F.x F.b h8.1 hS F.o (F.w _ hlink) (fun _ h => h) hdg (kk H locs ls hC hD hS hL)
theorem g_digT (F : Fx K cc own nL) {i : Nat} (hlink : Cond.fieldLink own i "java/lang/Integer" "DigitTens" "[B" ∈ lw_good) (hdg : decode cc pc = .ok (.getstatic i, 3)) {np : Nat} (hp : pc + 3 = np) (kk : Go K cells slots σ np lv (.ref (xen (fX K) 2 3) :: st)) : Go K cells slots σ pc lv st := by
  subst hp
  obtain ⟨-, -, -, -, -, -, -, -, h9, -⟩ := F.s.2.2.2.2.2
  exact fun H locs ls hC hD hS hL => va_gets F.x F.b h9.1 hS F.o (F.w _ hlink) (fun _ h => h) hdg (kk H locs ls hC hD hS hL)
theorem g_digOa (F : Fx K cc own nL) {i : Int32} (hin : vp_in i 100) (hdg : decode cc pc = .ok (.baload, 1)) {np : Nat} (hp : pc + 1 = np) (kk : Go K cells slots σ np lv (.int (digOnes i.toNatClampNeg) :: st)) : Go K cells slots σ pc lv (.int i :: .ref (xen (fX K) 2 2) :: st) := by
  subst hp
  obtain ⟨-, -, -, -, -, -, -, h8, -⟩ := F.s.2.2.2.2.2
  exact fun H locs ls hC hD hS hL => va_tb F.x F.b h8.2 hS hin (v := .int (digOnes i.toNatClampNeg)) rfl hdg (kk H locs ls hC hD hS hL)
theorem g_digTa (F : Fx K cc own nL) {i : Int32} (hin : vp_in i 100) (hdg : decode cc pc = .ok (.baload, 1)) {np : Nat} (hp : pc + 1 = np) (kk : Go K cells slots σ np lv (.int (digTens i.toNatClampNeg) :: st)) : Go K cells slots σ pc lv (.int i :: .ref (xen (fX K) 2 3) :: st) := by
  subst hp
  obtain ⟨-, -, -, -, -, -, -, -, h9, -⟩ := F.s.2.2.2.2.2
  exact fun H locs ls hC hD hS hL => va_tb F.x F.b h9.2 hS hin (v := .int (digTens i.toNatClampNeg)) rfl hdg (kk H locs ls hC hD hS hL)
/-- a static of the library's that is a reference or null -/
theorem g_fmt (F : Fx K cc own nL) {i : Nat} (hlink : Cond.fieldLink own i "jdk/internal/util/Preconditions" "SIOOBE_FORMATTER" "Ljava/util/function/BiFunction;" ∈ lw_good) (hdg : decode cc pc = .ok (.getstatic i, 3)) {np : Nat} (hp : pc + 3 = np) (kk : ∀ o : Option Nat, Go K cells slots σ np lv (va_rf o :: st)) : Go K cells slots σ pc lv st := by
  subst hp
  obtain ⟨-, -, -, -, -, -, -, -, -, h10, -⟩ := F.s.2.2.2.2.2
  rcases h10 with h | ⟨t, h⟩
  · exact fun H locs ls hC hD hS hL => va_gets F.x F.b h hS F.o (F.w _ hlink) (fun _ h => h) hdg (kk none H locs ls hC hD hS hL)
  · exact fun H locs ls hC hD hS hL => va_gets F.x F.b h hS F.o (F.w _ hlink) (fun _ h => h) hdg (kk (some t) H locs ls hC hD hS hL)
theorem g_ldcS (F : Fx K cc own nL) {j : Nat} (hj : j < 18) {i : Nat} (e1 : (stTx.getD j ("", 0, "")).1 = own) (e2 : (stTx.getD j ("", 0, "")).2.1 = i) (hdg : decode cc pc = .ok (.ldc i, 2)) {np : Nat} (hp : pc + 2 = np) (kk : Go K cells slots σ np lv (.ref (xen (fX K) 3 j) :: st)) : Go K cells slots σ pc lv st := by
  subst hp
  have h := F.s.2.2.2.2.2.2.1 j hj
  rw [e1, e2] at h
  exact fun H locs ls hC hD hS hL => va_ldcS F.x F.b F.o h hdg (kk H locs ls hC hD hS hL)
theorem g_ldcSW (F : Fx K cc own nL) {j : Nat} (hj : j < 18) {i : Nat} (e1 : (stTx.getD j ("", 0, "")).1 = own) (e2 : (stTx.getD j ("", 0, "")).2.1 = i) (hdg : decode cc pc = .ok (.ldc_w i, 3)) {np : Nat} (hp : pc + 3 = np) (kk : Go K cells slots σ np lv (.ref (xen (fX K) 3 j) :: st)) : Go K cells slots σ pc lv st := by
  subst hp
  have h := F.s.2.2.2.2.2.2.1 j hj
  rw [e1, e2] at h
  intro H locs ls hC hD hS hL T hT X
  obtain ⟨t, a1, b1⟩ := kk H locs ls hC hD hS hL T hT X
  exact ⟨t, X.ldcStringW F.x F.o (a := xen (fX K) 3 j) h.1 h.2 (g := F0 (fM K) pc ls st) rfl (by rw [F.b]; exact hdg) t a1, b1⟩
/-! commands -/
theorem g_cmdN (F : Fx K cc own nL) {j : Nat} (hj : j < 9) (q : String × String × String × List Int32) (hq : q ∈ cmF) {i : Nat} {host : String} (hlink : Cond.fieldLinkNest own i q.1 q.2.1 q.2.2.1 host ∈ lw_tbl) (hdg : decode cc pc = .ok (.getfield i, 3)) {np : Nat} (hp : pc + 3 = np) (kk : Go K cells slots σ np lv (.int (q.2.2.2.getD j 0) :: st)) : Go K cells slots σ pc lv (.ref (xen (fX K) 0 j) :: st) := by
  subst hp
  intro H locs ls hC hD hS hL
  obtain ⟨cf, k, fi, f, cell, h1, h2, h3, h4, h5, h6⟩ := ((F.s.1.1 j hj).2.2 q hq).kept hS.2.1
  exact va_Wgetf F.x F.b F.o (va_Nw.use rfl (F.s.2.2.2.2.1 _ hlink rfl)) h1 h2 h3 h4 (v := .int (q.2.2.2.getD j 0)) h5 rfl rfl hdg (kk H locs ls hC hD hS hL)
theorem g_cmdW (F : Fx K cc own nL) {j : Nat} (hj : j < 9) {i : Nat} {host : String} (hlink : Cond.fieldLinkNest own i "YarnMill$Command" "word" "Ljava/lang/String;" host ∈ lw_tbl) (hdg : decode cc pc = .ok (.getfield i, 3)) {np : Nat} (hp : pc + 3 = np) (kk : Go K cells slots σ np lv (.ref (xen (fX K) 3 j) :: st)) : Go K cells slots σ pc lv (.ref (xen (fX K) 0 j) :: st) := by
  subst hp
  intro H locs ls hC hD hS hL
  obtain ⟨-, -, h3', -⟩ := F.s.2.2.2.2.2
  obtain ⟨cf, k, fi, f, cell, h1, h2, h3, h4, h5, h6⟩ := (h3' j hj).kept hS.2.1
  exact va_Wgetf F.x F.b F.o (va_Nw.use rfl (F.s.2.2.2.2.1 _ hlink rfl)) h1 h2 h3 h4 (v := .ref (xen (fX K) 3 j)) h5 rfl rfl hdg (kk H locs ls hC hD hS hL)
theorem g_cmdAll (F : Fx K cc own nL) {i : Nat} {host : String} (hlink : Cond.fieldLinkNest own i "YarnMill$Command" "ALL" "[LYarnMill$Command;" host ∈ lw_tbl) (hdg : decode cc pc = .ok (.getstatic i, 3)) {np : Nat} (hp : pc + 3 = np) (kk : Go K cells slots σ np lv (.ref (xen (fX K) 2 1) :: st)) : Go K cells slots σ pc lv st := by
  subst hp
  exact fun H locs ls hC hD hS hL => va_getsN F.x F.b F.s.2.2.2.1.1 hS F.o (va_Nw.use rfl (F.s.2.2.2.2.1 _ hlink rfl)) (fun _ h => h) hdg (kk H locs ls hC hD hS hL)
theorem g_alenA (F : Fx K cc own nL) (hdg : decode cc pc = .ok (.arraylength, 1)) {np : Nat} (hp : pc + 1 = np) (kk : Go K cells slots σ np lv (.int 9 :: st)) : Go K cells slots σ pc lv (.ref (xen (fX K) 2 1) :: st) := by
  subst hp
  exact fun H locs ls hC hD hS hL => va_tlen F.x F.b F.s.2.2.2.1.2 hS (v := 9) (by decide) hdg (kk H locs ls hC hD hS hL)
theorem g_cmdGet (F : Fx K cc own nL) {i : Int32} (hin : vp_in i 9) (hdg : decode cc pc = .ok (.aaload, 1)) {np : Nat} (hp : pc + 1 = np) (kk : Go K cells slots σ np lv (.ref (xen (fX K) 0 i.toNatClampNeg) :: st)) : Go K cells slots σ pc lv (.int i :: .ref (xen (fX K) 2 1) :: st) := by
  subst hp
  exact fun H locs ls hC hD hS hL => vb_tq F.x F.b F.s.2.2.2.1.2 hS hin (v := .ref (xen (fX K) 0 i.toNatClampNeg)) rfl hdg (kk H locs ls hC hD hS hL)
theorem vin_lt {i : Int32} {n : Nat} (h : vp_in i n) : i.toNatClampNeg < n := Nat.not_le.mp fun q => h (Or.inr q)
theorem g_cmdLd (F : Fx K cc own nL) {i : Int32} (hin : vp_in i 60) (hdg : decode cc pc = .ok (.aaload, 1)) {np : Nat} (hp : pc + 1 = np) (kk : Go K cells slots σ np lv (va_rf ((cmdO (rd σ 12 0 i.toNatClampNeg)).map (xen (fX K) 0)) :: st)) : Go K cells slots σ pc lv (.int i :: .ref (xad (fX K) 12 0) :: st) := by
  subst hp
  intro H locs ls hC hD hS hL
  have hP : va_P (xD (fX K)) vwCl [(xad (fX K) 12 0, .inl (xct (fX K) 5, 60, .inr (.inr (.inr (.inr (fun j => (cmdO (rd σ 12 0 j)).map (xen (fX K) 0)))))))] H := by
    intro j q hq
    match j, hq with
    | 0, hq => cases hq; exact hC 12 0 (show (0 : Nat) < 1 by decide)
    | j + 1, hq => simp at hq
  exact va_aldq (C := "YarnMill$Command") F.x F.b F.k hP 0 5 rfl rfl hin hdg (kk H locs ls hC hD hS hL)
theorem g_cmdSt (F : Fx K cc own nL) {j : Nat} (hj : j < 9) {i : Int32} (hin : vp_in i 60) (hdg : decode cc pc = .ok (.aastore, 1)) {np : Nat} (hp : pc + 1 = np) (kk : Go K cells slots (wr σ 12 0 i.toNatClampNeg (nI (j + 1))) np lv st) : Go K cells slots σ pc lv (.ref (xen (fX K) 0 j) :: .int i :: .ref (xad (fX K) 12 0) :: st) := by
  subst hp
  intro H locs ls hC hD hS hL
  obtain ⟨q0, hq0⟩ := ws_at (fX K) σ (f := 12) (k := 0) (show (0 : Nat) < 1 by decide)
  have hany : va_Any "YarnMill$Command" (fS K) H (xen (fX K) 0 j) := by
    obtain ⟨cell, h1, h2, h3, -⟩ := (F.s.1.1 j hj).2.1.kept hS.2.1
    obtain ⟨kC, hkC, -⟩ := Vm.findClass_spec h3
    refine ⟨cell, h1, h2, ⟨kC, hkC⟩, fun comp h => ?_⟩
    rw [Option.some.inj (h3.symm.trans h)]
    exact Jvm.Free.SB.assignable_self _ _
  refine va_astqM F.x F.b F.k (ws_P hC) (ws_D hD) hS q0 5 (hq0.trans rfl) rfl hany hin hdg (fun H1 locs1 hP1 _ hS1 => ?_)
  refine kk H1 locs1 ls (cells_set hD (f := 12) (k := 0) (show (0 : Nat) < 1 by decide) hq0 hP1 ?_ (fun f' k' hne => el_wr_ne hne) (fun f' k' => adr_wr _ _ _ _ _ _ _ _)) (hD.same (fun f' k' => adr_wr _ _ _ _ _ _ _ _)) hS1 hL
  show (Sum.inl (xct (fX K) 5, 60, .inr (.inr (.inr (.inr (fun q => (cmdO (rd (wr σ 12 0 i.toNatClampNeg (nI (j + 1))) 12 0 q)).map (xen (fX K) 0)))))) : va_E) = _
  have e : (fun q => (cmdO (rd (wr σ 12 0 i.toNatClampNeg (nI (j + 1))) 12 0 q)).map (xen (fX K) 0)) = va_up (fun q => (cmdO (rd σ 12 0 q)).map (xen (fX K) 0)) i.toNatClampNeg (some (xen (fX K) 0 j)) := by
    funext q
    unfold va_up
    rw [rd_wr]
    by_cases hq : q = i.toNatClampNeg
    · rw [if_pos ⟨rfl, rfl, hq⟩, if_pos hq, cmdO_nI hj]
      rfl
    · rw [if_neg (fun e => hq e.2.2), if_neg hq]
  rw [e]
/-! doubles and floats that are no NaN -/
end SBR
section SBC
variable {K : Fr} {cells slots : Nat} {σ : Mem} {cc : ByteArray} {own : String} {nL pc fr lo mc ms : Nat} {ret : Option FieldType} {Qm : Option Value → Mem → Prop} {Em : String → Mem → Prop} {lv : List (Option Value)} {st : List Value}
/-- a call of the builder's superclass's method, inherited or its own -/
theorem g_callU (B : Bd K cc own nL ret fr lo mc ms Qm Em) (k : Nat) (hk : k < oCnt (fX K) 13) {x' y' : MethodName} {i n : Nat}
    {cc' : ByteArray} {maxL' fr' lo' mc' ms' : Nat} {ret' : Option FieldType} {As : List Value} {Qm' : Option Value → Mem → Prop} {Em' : String → Mem → Prop} (hM : MetG (fL K) (fX K) y' cc' maxL' ret' fr' lo' mc' ms' (.ref (xad (fX K) 13 k) :: As) σ Qm' Em')
    (hcode : Cond.code y' cc' maxL' ret' ∈ lw_good) (hlink : Cond.methodLink own i x' ∈ lw_good) (hsame : Cond.sameMethod x'.cls y'.cls x'.name x'.desc ∈ lw_good) (hinst : Cond.instanceMethod y' ∈ lw_good) (hsel : Cond.selects "java/lang/StringBuilder" x' y' ∈ lw_good) (hini : Cond.initialized y'.cls ∈ lw_good)
    (hyx : y' = ⟨y'.cls, x'.name, x'.desc⟩) (hd : y'.cls ≠ "java/lang/invoke/MethodHandle" ∧ y'.cls ≠ "java/lang/invoke/VarHandle" ∧ (parseMethodDescriptor x'.desc).map (fun d => d.parameters.length) = some n) (hn : As.length = n) (hfr : fr' + 1 ≤ fr) (hlo : 8 + (maxL' + 11) + lo' ≤ lo) (hst : (st.map fun v => v.category).sum ≤ 8) (hdg : decode cc pc = .ok (.invokevirtual i, 3))
    (hc : cells + mc' ≤ mc) (hs : slots + ms' ≤ ms) (hE : ∀ E σ', Em' E σ' → Em E σ')
    {np : Nat} (hp : pc + 3 = np) (kk : ∀ (r : Option Value) (σ' : Mem), Qm' r σ' → Go K (cells + mc') (slots + ms') σ' np lv (r.toList ++ st)) : Go K cells slots σ pc lv (As.reverse ++ .ref (xad (fX K) 13 k) :: st) := by
  subst hp
  refine g_ran B (a := (Value.ref (xad (fX K) 13 k) :: As).toArray) (fun H locs ls hC hD hS hL => ?_) hc hs hE rfl kk
  have hP : va_P (xD (fX K)) vwCl [(adr (fX K) σ 13 k, el (fX K) σ 13 k)] H := by
    intro j q hq
    match j, hq with
    | 0, hq => cases hq; exact hC 13 k hk
    | j + 1, hq => simp at hq
  have F := B.1
  have hT : GoodIn lw_good (va_wsU own i "java/lang/StringBuilder" y'.cls x' y' (Cond.code y' cc' maxL' ret' :: lw_good)) := by
    intro w hw
    have h2 : w ∈ lw_good := by
      unfold va_wsU at hw
      simp only [List.cons_append, List.nil_append, List.mem_cons] at hw
      rcases hw with e | e | e | e | e | e | e
      · rw [e]; exact hlink
      · rw [e]; exact hsame
      · rw [e]; exact hsel
      · rw [e]; exact hinst
      · rw [e]; exact hini
      · rw [e]; exact hcode
      · exact e
    exact ⟨h2, good_of_word (List.mem_filter.mp h2).2⟩
  have hfx : CallFix (fP K) (fM K) (fC K) cc nL (fS K) (fA K) lw_good own := ⟨F.x, F.b, F.ml.trans F.n, F.o, F.w⟩
  exact vx_runU hfx hM (va_cwU n F.w hT rfl rfl rfl hyx ⟨hd.1, hd.2.1, hd.2.2⟩ ⟨by rw [B.2.1]; exact hfr, by rw [B.2.1]; exact hlo⟩)
    ⟨fun a U g mk q => ⟨q.1, q.2.moved (State.WarmedH.refl U) rfl⟩, va_recv (q0 := 0) (ci := 1) (q := (RJ4, TJ4, 4)) F.k hP rfl rfl, fun U hU hW => ⟨rfl, bd_wd F hC hD hS hU hW⟩⟩ rfl hn (hL.1.trans F.n) rfl (lv_room hst) hdg (by rw [B.2.1]; exact ⟨hc, hs⟩)
/-- super.m(..) in the builder -/
theorem g_callSU (B : Bd K cc "java/lang/StringBuilder" nL ret fr lo mc ms Qm Em) (k : Nat) (hk : k < oCnt (fX K) 13) {y' : MethodName} {i n : Nat}
    {cc' : ByteArray} {maxL' fr' lo' mc' ms' : Nat} {ret' : Option FieldType} {As : List Value} {Qm' : Option Value → Mem → Prop} {Em' : String → Mem → Prop} (hM : MetG (fL K) (fX K) y' cc' maxL' ret' fr' lo' mc' ms' (.ref (xad (fX K) 13 k) :: As) σ Qm' Em')
    (hcode : Cond.code y' cc' maxL' ret' ∈ lw_good) (hlink : Cond.methodLink "java/lang/StringBuilder" i y' ∈ lw_good) (hsame : Cond.sameMethod y'.cls y'.cls y'.name y'.desc ∈ lw_good) (hsup : Cond.superclass "java/lang/StringBuilder" y'.cls ∈ lw_good) (hinst : Cond.instanceMethod y' ∈ lw_good) (hini : Cond.initialized y'.cls ∈ lw_good)
    (hd : y'.name ≠ "<init>" ∧ (parseMethodDescriptor y'.desc).map (fun d => d.parameters.length) = some n) (hn : As.length = n) (hfr : fr' + 1 ≤ fr) (hlo : 8 + (maxL' + 11) + lo' ≤ lo) (hst : (st.map fun v => v.category).sum ≤ 8) (hdg : decode cc pc = .ok (.invokespecial i, 3))
    (hc : cells + mc' ≤ mc) (hs : slots + ms' ≤ ms) (hE : ∀ E σ', Em' E σ' → Em E σ')
    {np : Nat} (hp : pc + 3 = np) (kk : ∀ (r : Option Value) (σ' : Mem), Qm' r σ' → Go K (cells + mc') (slots + ms') σ' np lv (r.toList ++ st)) : Go K cells slots σ pc lv (As.reverse ++ .ref (xad (fX K) 13 k) :: st) := by
  subst hp
  refine g_ran B (a := (Value.ref (xad (fX K) 13 k) :: As).toArray) (fun H locs ls hC hD hS hL => ?_) hc hs hE rfl kk
  have hP : va_P (xD (fX K)) vwCl [(adr (fX K) σ 13 k, el (fX K) σ 13 k)] H := by
    intro j q hq
    match j, hq with
    | 0, hq => cases hq; exact hC 13 k hk
    | j + 1, hq => simp at hq
  have F := B.1
  have hT : GoodIn lw_good (va_wsSU "java/lang/StringBuilder" i y' (Cond.code y' cc' maxL' ret' :: lw_good)) := by
    intro w hw
    have h2 : w ∈ lw_good := by
      unfold va_wsSU at hw
      simp only [List.cons_append, List.nil_append, List.mem_cons] at hw
      rcases hw with e | e | e | e | e | e | e
      · rw [e]; exact hlink
      · rw [e]; exact hsame
      · rw [e]; exact hsup
      · rw [e]; exact hinst
      · rw [e]; exact hini
      · rw [e]; exact hcode
      · exact e
    exact ⟨h2, good_of_word (List.mem_filter.mp h2).2⟩
  have hfx : CallFix (fP K) (fM K) (fC K) cc nL (fS K) (fA K) lw_good "java/lang/StringBuilder" := ⟨F.x, F.b, F.ml.trans F.n, F.o, F.w⟩
  exact vx_runSU (F.k.1 1 (RJ4, TJ4, 4) rfl).2 hfx hM (va_cwSU n F.w hT rfl rfl rfl hd ⟨by rw [B.2.1]; exact hfr, by rw [B.2.1]; exact hlo⟩)
    ⟨fun a U g mk q => ⟨q.1, q.2.moved (State.WarmedH.refl U) rfl⟩, va_recv (q0 := 0) (ci := 1) (q := (RJ4, TJ4, 4)) F.k hP rfl rfl, fun U hU hW => ⟨rfl, bd_wd F hC hD hS hU hW⟩⟩ rfl hn (hL.1.trans F.n) rfl (lv_room hst) hdg (by rw [B.2.1]; exact ⟨hc, hs⟩)
/-- a call of a text's own method -/
theorem g_callT (B : Bd K cc own nL ret fr lo mc ms Qm Em) {j : Nat} (hj : j < 18) {i n : Nat}
    {y' : MethodName} {cc' : ByteArray} {maxL' fr' lo' mc' ms' : Nat} {ret' : Option FieldType} {As : List Value} {Qm' : Option Value → Mem → Prop} {Em' : String → Mem → Prop} (hM : MetG (fL K) (fX K) y' cc' maxL' ret' fr' lo' mc' ms' (.ref (xen (fX K) 3 j) :: As) σ Qm' Em')
    (hcode : Cond.code y' cc' maxL' ret' ∈ lw_good) (hlink : Cond.methodLink own i y' ∈ lw_good) (hinst : Cond.instanceMethod y' ∈ lw_good) (hsel : Cond.selects "java/lang/String" y' y' ∈ lw_good) (hini : Cond.initialized "java/lang/String" ∈ lw_good)
    (hd : y'.cls = "java/lang/String" ∧ y'.cls ≠ "java/lang/invoke/MethodHandle" ∧ y'.cls ≠ "java/lang/invoke/VarHandle" ∧ (parseMethodDescriptor y'.desc).map (fun d => d.parameters.length) = some n) (hn : As.length = n) (hfr : fr' + 1 ≤ fr) (hlo : 8 + (maxL' + 11) + lo' ≤ lo) (hst : (st.map fun v => v.category).sum ≤ 8) (hdg : decode cc pc = .ok (.invokevirtual i, 3))
    (hc : cells + mc' ≤ mc) (hs : slots + ms' ≤ ms) (hE : ∀ E σ', Em' E σ' → Em E σ')
    {np : Nat} (hp : pc + 3 = np) (kk : ∀ (r : Option Value) (σ' : Mem), Qm' r σ' → Go K (cells + mc') (slots + ms') σ' np lv (r.toList ++ st)) : Go K cells slots σ pc lv (As.reverse ++ .ref (xen (fX K) 3 j) :: st) := by
  subst hp
  refine g_ran B (a := (Value.ref (xen (fX K) 3 j) :: As).toArray) (fun H locs ls hC hD hS hL => ?_) hc hs hE rfl kk
  have F := B.1
  have hT : GoodIn lw_good (wsV own i "java/lang/String" y' (Cond.code y' cc' maxL' ret' :: lw_good)) := by
    intro w hw
    have h2 : w ∈ lw_good := by
      unfold wsV at hw
      simp only [List.cons_append, List.nil_append, List.mem_cons] at hw
      rcases hw with e | e | e | e | e | e
      · rw [e]; exact hlink
      · rw [e]; exact hinst
      · rw [e]; exact hsel
      · rw [e]; exact hini
      · rw [e]; exact hcode
      · exact e
    exact ⟨h2, good_of_word (List.mem_filter.mp h2).2⟩
  have hfx : CallFix (fP K) (fM K) (fC K) cc nL (fS K) (fA K) lw_good own := ⟨F.x, F.b, F.ml.trans F.n, F.o, F.w⟩
  have hob : ∃ cell : Cell, H[xen (fX K) 3 j]? = some cell ∧ cell.vm.isStatics = false ∧ (fS K).vm.findClass "java/lang/String" = some cell.cls := by
    obtain ⟨cell, h1, h2, h3, -⟩ := (F.s.2.2.2.2.2.1 j hj).1.kept hS.2.1
    exact ⟨cell, h1, h2, h3⟩
  exact vx_runV hfx hM (cwV n F.w hT rfl rfl rfl hd ⟨by rw [B.2.1]; exact hfr, by rw [B.2.1]; exact hlo⟩)
    ⟨fun a U g mk q => ⟨q.1, q.2.moved (State.WarmedH.refl U) rfl⟩, hob, fun U hU hW => ⟨rfl, bd_wd F hC hD hS hU hW⟩⟩ rfl hn (hL.1.trans F.n) rfl (lv_room hst) hdg (by rw [B.2.1]; exact ⟨hc, hs⟩)
end SBC
def RR (a : Nat) (Q : Mem → Prop) : Option Value → Mem → Prop := fun r σ => r = some (.ref a) ∧ Q σ
theorem sb_sel (i : Nat) {w : Cond} (h : lw_sel2[i]? = some w) (g : goodWord w = true) : w ∈ lw_good := List.mem_filter.mpr ⟨List.mem_append_left _ (List.mem_of_getElem? h), g⟩
def cpT (σ : Mem) (j k dp n : Nat) : Mem := (fun f' k' s' => if f' = 16 ∧ k' = k then va_cpy (fun q => (stByt.getD j []).getD q 0) (rd σ 16 k) 0 dp n s' else σ.1 f' k' s', σ.2)
theorem rd_cpT (σ : Mem) (j k dp n f' k' s' : Nat) : rd (cpT σ j k dp n) f' k' s' = if f' = 16 ∧ k' = k then va_cpy (fun q => (stByt.getD j []).getD q 0) (rd σ 16 k) 0 dp n s' else rd σ f' k' s' := rfl
theorem txt_fit {j q : Nat} (hj : j < 18) (hq : q < stLen.getD j 0) : fits .byte (.int ((stByt.getD j []).getD q 0)) = true := by
  have h : ∀ j : Nat, j < 18 → ∀ q : Nat, q < stLen.getD j 0 → fits .byte (.int ((stByt.getD j []).getD q 0)) = true := by decide +kernel
  exact h j hj q hq
section SBX
variable {K : Fr} {cells slots : Nat} {σ : Mem} {cc : ByteArray} {own : String} {nL pc : Nat} {lv lv' : List (Option Value)} {st : List Value}
theorem g_copyT (F : Fx K cc own nL) {i : Nat} (hlink : Cond.methodLink own i arraycopyName ∈ lw_good) (hnat : Cond.native arraycopyName ∈ lw_good) (hstat : Cond.static arraycopyName ∈ lw_good) (hini : Cond.initialized "java/lang/System" ∈ lw_good)
    {j : Nat} (hj : j < 18) (k : Nat) (hk : k < oCnt (fX K) 13) {dp n : Int32} (h2 : ¬ dp < 0) (h3 : ¬ n < 0) (h4 : n.toNatClampNeg ≤ stLen.getD j 0) (h5 : dp.toNatClampNeg + n.toNatClampNeg ≤ σ.2.2.1 k)
    (hfr : 1 ≤ (fR K).frames) (hlo : (st.map fun v => v.category).sum + (nativeFrameWords "java/lang/System" "arraycopy" 5 + 11) ≤ (fR K).locals) (hdg : decode cc pc = .ok (.invokestatic i, 3))
    {np : Nat} (hp : pc + 3 = np) (kk : Go K cells slots (cpT σ j k dp.toNatClampNeg n.toNatClampNeg) np lv st) : Go K cells slots σ pc lv (.int n :: .int dp :: .ref (σ.2.1 k) :: .int 0 :: .ref (xen (fX K) 4 j) :: st) := by
  subst hp
  intro H locs ls hC hD hS hL
  obtain ⟨q1, hq1⟩ := ws_at (fX K) σ (f := 16) (k := k) hk
  refine vk_copyt F.x F.b (F.ml.trans hL.1.symm) F.o (F.w _ hlink) (F.w _ hnat) (F.w _ hstat) (F.w _ hini) F.k (ws_P hC) (ws_D hD) hS (f := fun q => (stByt.getD j []).getD q 0) (F.s.2.2.2.2.2.1 j hj).2.2.2 q1 3 (hq1.trans (by rw [el_16 (fX K) σ σ k rfl]; rfl)) rfl (by decide) h2 h3 (by show 0 + _ ≤ _; omega) h5 (fun q hq => by
    show fits .byte (.int ((stByt.getD j []).getD (0 + q) 0)) = true
    rw [Nat.zero_add]
    exact txt_fit hj (Nat.lt_of_lt_of_le hq h4)) hfr hlo hdg (fun H1 locs1 hP1 _ hS1 => ?_)
  refine kk H1 locs1 ls (cells_set hD (f := 16) (k := k) hk hq1 hP1 ?_ (fun f' k' hne => el_congr (fun s => by rw [rd_cpT, if_neg hne]) rfl) (fun f' k' => rfl)) (hD.same (fun f' k' => rfl)) hS1 hL
  rw [el_16 (fX K) σ (cpT σ j k dp.toNatClampNeg n.toNatClampNeg) k rfl]
  have : (fun q => rd (cpT σ j k dp.toNatClampNeg n.toNatClampNeg) 16 k q) = va_cpy (fun q => (stByt.getD j []).getD q 0) (fun q => rd σ 16 k q) (0 : Int32).toNatClampNeg dp.toNatClampNeg n.toNatClampNeg := by
    funext q
    rw [rd_cpT, if_pos ⟨rfl, rfl⟩]
    rfl
  rw [this]
end SBX
section SBN
variable {K : Fr} {cells slots : Nat} {σ : Mem} {cc : ByteArray} {own : String} {nL pc : Nat} {lv lv' : List (Option Value)} {st : List Value}
theorem g_aload_nN (F : Fx K cc own nL) {k : Fin 4} (hdg : decode cc pc = .ok (.aload_n k, 1)) (hl : lv[(k : Nat)]? = some (some .null)) {np : Nat} (hp : pc + 1 = np) (kk : Go K cells slots σ np lv (.null :: st)) : Go K cells slots σ pc lv st := by
  subst hp
  exact fun H locs ls hC hD hS hL => lv_aload_nN F.x F.b hdg rfl (hL.2.2 _ _ hl) (kk H locs ls hC hD hS hL)
theorem g_aloadN (F : Fx K cc own nL) {k : Nat} (hdg : decode cc pc = .ok (.aload k, 2)) (hl : lv[k]? = some (some .null)) {np : Nat} (hp : pc + 2 = np) (kk : Go K cells slots σ np lv (.null :: st)) : Go K cells slots σ pc lv st := by
  subst hp
  exact fun H locs ls hC hD hS hL => lv_aloadN F.x F.b hdg (hL.2.2 _ _ hl) (kk H locs ls hC hD hS hL)
theorem g_astore_nN (F : Fx K cc own nL) {k : Fin 4} (hdg : decode cc pc = .ok (.astore_n k, 1)) (hn : (k : Nat) < nL) (hc : lvc lv k = true) (hl : lv.set k (some .null) = lv') {np : Nat} (hp : pc + 1 = np) (kk : Go K cells slots σ np lv' st) : Go K cells slots σ pc lv (.null :: st) := by
  subst hp
  exact fun H locs ls hC hD hS hL => lv_astore_nN F.x F.b hdg rfl hL.has (by rw [F.n]; exact hn) rfl (fun ls2 hL2 => kk H locs ls2 hC hD hS (Lh.put hc hl hL2))
theorem g_astoreN (F : Fx K cc own nL) {k : Nat} (hdg : decode cc pc = .ok (.astore k, 2)) (hn : k < nL) (hc : lvc lv k = true) (hl : lv.set k (some .null) = lv') {np : Nat} (hp : pc + 2 = np) (kk : Go K cells slots σ np lv' st) : Go K cells slots σ pc lv (.null :: st) := by
  subst hp
  exact fun H locs ls hC hD hS hL => lv_astoreN F.x F.b hdg hL.has (by rw [F.n]; exact hn) rfl (fun ls2 hL2 => kk H locs ls2 hC hD hS (Lh.put hc hl hL2))
end SBN
theorem look_d (dflt a : Int) : ∀ (ps : List (Int × Int)), (∀ q ∈ ps, ¬ q.1 = a) → Op.lookupswitch.offset ps dflt a = dflt
  | [], _ => rfl
  | (b, o) :: r, h => by
    rw [Op.lookupswitch.offset_cons, if_neg (h _ List.mem_cons_self)]
    exact look_d dflt a r (fun q hq => h q (List.mem_cons_of_mem _ hq))
theorem look_dflt (dflt a : Int) {ps : List (Int × Int)} (h : ∀ q ∈ ps, ¬ q.1 = a) : Op.lookupswitch.offset ps dflt a = dflt := look_d dflt a ps h
