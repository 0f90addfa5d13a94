/-! THE TEXT'S CONSTRUCTORS, toString -/
def NewT (σ σ' : Mem) (k n : Nat) : Prop := (∀ f k' s : Nat, f ≠ 20 → f ≠ 21 → rd σ' f k' s = rd σ f k' s) ∧ ¬ rd σ' 20 0 0 = 0 ∧ rd σ' 20 0 1 = 0 ∧ σ'.2.2.2.2 0 = n ∧ (∀ j : Nat, j < n → rd σ' 21 0 j = rd σ 16 k j) ∧ σ'.2.2.1 = σ.2.2.1
/-- builder k is ready to be made a text of n signs -/
def TsOk (σ : Mem) (k n : Nat) : Prop := rd σ 13 k 1 = 0 ∧ rd σ 13 k 3 = nI n ∧ n ≤ σ.2.2.1 k ∧ σ.2.2.1 k ≤ 150 ∧ ∀ j : Nat, j < σ.2.2.1 k → fits .byte (.int (rd σ 16 k j)) = true
def QT (x : Ctx) (σ : Mem) (k n : Nat) : Array Value → State → Outcome → State → Prop := fun _ st o t => (∃ σ' : Mem, o = .returned none ∧ NewT σ σ' k n ∧ Cells (xSY x) σ' t.heap ∧ Dis (xSY x) σ') ∧ va_F (XA x) st t
def QS (x : Ctx) (σ : Mem) (k n : Nat) : Array Value → State → Outcome → State → Prop := fun _ st o t => (∃ (a : Nat) (σ' : Mem), o = .returned (some (.ref a)) ∧ NewT σ σ' k n ∧ Cells (xSY (xST x a)) σ' t.heap ∧ Dis (xSY (xST x a)) σ') ∧ va_F (XA x) st t
theorem ws_add {x : Ctx} {σ : Mem} {H : Heap} {b : Nat} {e : va_E} (hC : Cells x σ H) (hD : Dis x σ) (hf : (∀ f' k', k' < oCnt x f' → adr x σ f' k' ≠ b) ∧ xb x ≤ b) (hat : va_at (xD x) vwCl (b, e) H) : va_P (xD x) vwCl (WS x σ ++ [(b, e)]) H ∧ va_D (XA x) (WS x σ ++ [(b, e)]) := by
  refine ⟨(ws_P hC).app (fun j z hj => by
    match j, hj with
    | 0, hj => cases hj; exact hat
    | j + 1, hj => simp at hj), ?_⟩
  have hnb : ∀ (j : Nat) (z : Nat × va_E), (WS x σ)[j]? = some z → z.1 ≠ b := by
    intro j z hj
    obtain ⟨f', k', hk', -, rfl⟩ := ws_of hj
    exact hf.1 f' k' hk'
  have hDw := ws_D hD
  refine ⟨fun i j p z hi hj e' => ?_, fun i z hi => ?_⟩
  · rcases Nat.lt_or_ge i (WS x σ).length with g1 | g1 <;> rcases Nat.lt_or_ge j (WS x σ).length with g2 | g2
    · rw [List.getElem?_append_left g1] at hi
      rw [List.getElem?_append_left g2] at hj
      exact hDw.1 i j p z hi hj e'
    · rw [List.getElem?_append_left g1] at hi
      rw [List.getElem?_append_right g2] at hj
      obtain rfl : z = (b, e) := by simpa using (List.mem_of_getElem? hj)
      exact absurd e' (hnb i p hi)
    · rw [List.getElem?_append_right g1] at hi
      rw [List.getElem?_append_left g2] at hj
      obtain rfl : p = (b, e) := by simpa using (List.mem_of_getElem? hi)
      exact absurd e'.symm (hnb j z hj)
    · have a1 := (List.getElem?_eq_some_iff.mp hi).1
      have a2 := (List.getElem?_eq_some_iff.mp hj).1
      simp only [List.length_append, List.length_cons, List.length_nil] at a1 a2
      omega
  · rcases Nat.lt_or_ge i (WS x σ).length with g1 | g1
    · rw [List.getElem?_append_left g1] at hi
      exact hDw.2 i z hi
    · rw [List.getElem?_append_right g1] at hi
      obtain rfl : z = (b, e) := by simpa using (List.mem_of_getElem? hi)
      exact hf.2
/-- what does not hold a text is the same, whatever is said of texts -/
theorem el_noT {x : Ctx} {σ σ' : Mem} {f k : Nat} (h20 : f ≠ 20) (h21 : f ≠ 21) (hk : k < oCnt x f) (hr : ∀ s, rd σ' f k s = rd σ f k s) (h1 : σ'.2.1 = σ.2.1) (h2 : σ'.2.2.1 = σ.2.2.1) : el x σ' f k = el x σ f k := by
  unfold el
  split
  all_goals first
    | exact absurd rfl h20
    | exact absurd rfl h21
    | (simp only [hr, h1, h2]; done)
    | rfl
def mkT (τ : Mem) (b n : Nat) (g : Nat → Int32) : Mem := (fun f k' s => if f = 20 ∧ k' = 0 ∧ s = 0 then 1 else if f = 21 ∧ k' = 0 then g s else τ.1 f k' s, τ.2.1, τ.2.2.1, (fun j => if j = 0 then b else τ.2.2.2.1 j), fun j => if j = 0 then n else τ.2.2.2.2 j)
theorem rd_mkT {τ : Mem} {b n : Nat} {g : Nat → Int32} {f k s : Nat} (h : ¬ (f = 20 ∧ k = 0 ∧ s = 0)) (h2 : ¬ (f = 21 ∧ k = 0)) : rd (mkT τ b n g) f k s = rd τ f k s := by
  show (if f = 20 ∧ k = 0 ∧ s = 0 then (1 : Int32) else if f = 21 ∧ k = 0 then g s else τ.1 f k s) = _
  rw [if_neg h, if_neg h2]
  rfl
section TX
variable {x : Ctx} (hT2 : xen x 30 2 = 1) (hT3 : xen x 30 3 = 0)
theorem ext_SY (hT2 : xen x 30 2 = 1) (hT3 : xen x 30 3 = 0) : Ext x (xSY x) := by
  refine ⟨⟨rfl, rfl, rfl⟩, fun f j hf => ?_, fun _ _ _ => rfl, fun f => ?_⟩
  · show (if f = 30 ∧ j = 2 then 0 else if f = 30 ∧ j = 3 then 1 else xen x f j) = _
    rw [if_neg (by omega), if_neg (by omega)]
  · by_cases e : f = 21
    · subst e
      show xen x 30 3 ≤ 1
      omega
    · exact Nat.le_of_eq (cnt_same (x := x) (y := xSY x) (fun _ => rfl) (fun _ => rfl) (fun _ => by show 0 + 1 = _; omega) (fun q => absurd q e)).symm
theorem cnt_SY (hT2 : xen x 30 2 = 1) (hT3 : xen x 30 3 = 0) {f k : Nat} (h1 : k < oCnt (xSY x) f) (h2 : ¬ (f = 21 ∧ k = 0)) : k < oCnt x f := by
  by_cases e : f = 21
  · subst e
    have e1 : oCnt (xSY x) 21 = 1 := rfl
    omega
  · rw [← cnt_same (x := x) (y := xSY x) (fun _ => rfl) (fun _ => rfl) (fun _ => by show 0 + 1 = _; omega) (fun q => absurd q e)]
    exact h1
/-- the text's row becomes its own -/
theorem cells_SY (hT2 : xen x 30 2 = 1) (hT3 : xen x 30 3 = 0) {τ : Mem} {b n q0 : Nat} {g : Nat → Int32} {H1 : Heap} (hD : Dis x τ) (hz : rd τ 20 0 0 = 0) (hf : ∀ f' k', k' < oCnt x f' → adr x τ f' k' ≠ b) (hq0 : (WS x τ)[q0]? = some (adr x τ 20 0, el x τ 20 0))
    (hP : va_P (xD x) vwCl ((WS x τ ++ [((b, .inl (xct x 3, n, .inl g)) : Nat × va_E)]).set q0 (xad x 20 0, .inr (0, [.ref b, .int (rd τ 20 0 1), .int (rd τ 20 0 2), .int (rd τ 20 0 3)]))) H1) : Cells (xSY x) (mkT τ b n g) H1 := by
  have hE := ext_SY hT2 hT3
  have hq0l := (List.getElem?_eq_some_iff.mp hq0).1
  have c20 : 0 < oCnt x 20 := by
    show 0 < xen x 30 2 + xen x 30 3
    omega
  intro f k hk
  by_cases e21 : f = 21 ∧ k = 0
  · obtain ⟨rfl, rfl⟩ := e21
    have h := hP (WS x τ).length (b, .inl (xct x 3, n, .inl g)) (by
      rw [List.getElem?_set_ne (by omega), List.getElem?_append_right (Nat.le_refl _), Nat.sub_self]
      rfl)
    have e2 : (fun j => rd (mkT τ b n g) 21 0 j) = g := funext fun j => by
      show (if (21 : Nat) = 20 ∧ (0 : Nat) = 0 ∧ j = 0 then (1 : Int32) else if (21 : Nat) = 21 ∧ (0 : Nat) = 0 then g j else τ.1 21 0 j) = _
      rw [if_neg (by omega), if_pos ⟨rfl, rfl⟩]
    show va_at _ _ (b, .inl (xct x 3, n, .inl (fun j => rd (mkT τ b n g) 21 0 j))) H1
    rw [e2]
    exact h
  · have h1 := cnt_SY hT2 hT3 hk e21
    by_cases e20 : f = 20
    · subst e20
      have hk0 : k = 0 := by
        have : oCnt x 20 = xen x 30 2 + xen x 30 3 := rfl
        omega
      subst hk0
      have h := hP q0 _ (List.getElem?_set_self (by rw [List.length_append]; omega))
      have e2 : el (xSY x) (mkT τ b n g) 20 0 = .inr (0, [.ref b, .int (rd τ 20 0 1), .int (rd τ 20 0 2), .int (rd τ 20 0 3)]) := by
        show (Sum.inr (0, [va_rf (if (1 : Int32) = 0 then none else some b), .int (rd (mkT τ b n g) 20 0 1), .int (rd (mkT τ b n g) 20 0 2), .int (rd (mkT τ b n g) 20 0 3)]) : va_E) = _
        rw [if_neg (by decide), rd_mkT (by omega) (by omega), rd_mkT (by omega) (by omega), rd_mkT (by omega) (by omega)]
        rfl
      rw [e2]
      exact h
    · have e21' : f ≠ 21 := by
        rintro rfl
        have : oCnt x 21 = xen x 30 3 := rfl
        omega
      have had : adr (xSY x) (mkT τ b n g) f k = adr x τ f k := by
        rw [hE.aq h1]
        unfold adr
        by_cases e16 : f = 16
        · rw [if_pos e16, if_pos e16]
          rfl
        · rw [if_neg e16, if_neg e16, if_neg e21', if_neg e21']
      rw [had, hE.eq2 h1, el_noT (σ := τ) e20 e21' h1 (fun s => rd_mkT (by omega) (by omega)) rfl rfl]
      obtain ⟨j, hj⟩ := ws_at x τ h1
      have hjl := (List.getElem?_eq_some_iff.mp hj).1
      refine hP j _ ?_
      rw [List.getElem?_set_ne ?_, List.getElem?_append_left hjl]
      · exact hj
      · intro e0
        subst e0
        have h9 := congrArg Prod.fst (Option.some.inj (hq0.symm.trans hj))
        obtain ⟨a1, a2⟩ := hD.1 20 0 f k c20 h1 h9
        exact e20 a1.symm
theorem dis_SY (hT2 : xen x 30 2 = 1) (hT3 : xen x 30 3 = 0) {τ : Mem} {b n : Nat} {g : Nat → Int32} (hD : Dis x τ) (hf : (∀ f' k', k' < oCnt x f' → adr x τ f' k' ≠ b) ∧ xb x ≤ b) : Dis (xSY x) (mkT τ b n g) := by
  have hE := ext_SY hT2 hT3
  have had : ∀ f k : Nat, k < oCnt (xSY x) f → adr (xSY x) (mkT τ b n g) f k = if f = 21 ∧ k = 0 then b else adr x τ f k := by
    intro f k hk
    by_cases a2 : f = 21 ∧ k = 0
    · obtain ⟨rfl, rfl⟩ := a2
      rfl
    · rw [if_neg a2, hE.aq (cnt_SY hT2 hT3 hk a2)]
      unfold adr
      by_cases e16 : f = 16
      · rw [if_pos e16, if_pos e16]
        rfl
      · rw [if_neg e16, if_neg e16]
        by_cases e21 : f = 21
        · rw [if_pos e21, if_pos e21]
          exact if_neg (fun q => a2 ⟨e21, q⟩)
        · rw [if_neg e21, if_neg e21]
  refine ⟨fun f k f' k' h1 h2 e => ?_, fun f k h1 => ?_⟩
  · rw [had f k h1, had f' k' h2] at e
    by_cases a1 : f = 21 ∧ k = 0 <;> by_cases a2 : f' = 21 ∧ k' = 0
    · exact ⟨a1.1.trans a2.1.symm, a1.2.trans a2.2.symm⟩
    · rw [if_pos a1, if_neg a2] at e
      exact absurd e.symm (hf.1 f' k' (cnt_SY hT2 hT3 h2 a2))
    · rw [if_neg a1, if_pos a2] at e
      exact absurd e (hf.1 f k (cnt_SY hT2 hT3 h1 a1))
    · rw [if_neg a1, if_neg a2] at e
      exact hD.1 f k f' k' (cnt_SY hT2 hT3 h1 a1) (cnt_SY hT2 hT3 h2 a2) e
  · show xb x ≤ _
    rw [had f k h1]
    split
    · exact hf.2
    · rename_i a1
      exact hD.2 f k (cnt_SY hT2 hT3 h1 a1)
end TX
section TC
variable {K : Fr} {cells slots : Nat} {σ : Mem} {cc : ByteArray} {own : String} {nL pc : Nat} {lv lv' : List (Option Value)} {st : List Value}
theorem g_objInit (F : Fx K cc own nL) {i : Nat} (hlink : Cond.methodLink own i Lib.objectInit ∈ lw_good) (hinst : Cond.instanceMethod Lib.objectInit ∈ lw_good) (hcode : Cond.code Lib.objectInit ⟨#[0xb1]⟩ 1 none ∈ lw_good) {a : Nat} (hfr : 1 ≤ (fR K).frames) (hlo : 2 * 0 + (st.map fun v => v.category).sum + 12 ≤ (fR K).locals) (hdg : decode cc pc = .ok (.invokespecial i, 3)) {np : Nat} (hp : pc + 3 = np) (kk : Go K cells slots σ np lv st) : Go K cells slots σ pc lv (.ref a :: st) := by
  subst hp
  exact fun H locs ls hC hD hS hL => W.objInit F.x F.b F.o (F.w _ hlink) (F.w _ hinst) (F.w _ hcode) rfl (hL.1.trans F.ml.symm) rfl hdg hfr hlo (kk H locs ls hC hD hS hL)
/-- coder = 0, in the text's constructor -/
theorem g_putC (F : Fx K cc "java/lang/String" nL) (hnm : (fMe K).name = "<init>") (hk : 0 < oCnt (fX K) 20) {i : Nat} (hlink : Cond.fieldLink "java/lang/String" i "java/lang/String" "coder" "B" ∈ lw_good) (hdg : decode cc pc = .ok (.putfield i, 3)) {np : Nat} (hp : pc + 3 = np) (kk : Go K cells slots (wr σ 20 0 1 0) np lv st) : Go K cells slots σ pc lv (.int 0 :: .ref (xad (fX K) 20 0) :: st) := by
  subst hp
  intro H locs ls hC hD hS hL
  obtain ⟨q0, hq0⟩ := ws_at (fX K) σ hk
  refine va_putF F.x F.b F.w inJ0 tyJ0 tyJ0_ok nmJ0 F.o F.k (ws_P hC) (ws_D hD) hS q0 (a := xad (fX K) 20 0) (ci := 0) (C := RJ0) (T := TJ0) (N := 4) hq0 rfl 1 (by decide) (F.w _ hlink) (fun _ h => h) rfl hnm rfl (ty := .byte) (v := .int 0) (by decide +kernel) rfl rfl (Nat.le_of_ble_eq_true rfl) hdg (fun H1 locs1 hP1 _ hS1 => ?_)
  exact kk H1 locs1 ls (cells_set hD hk hq0 hP1 (by simp [el, rd_wr, wr_2]) (fun f' k' hne => el_wr_ne hne) (fun f' k' => adr_wr _ _ _ _ _ _ _ _)) (hD.same (fun f' k' => adr_wr _ _ _ _ _ _ _ _)) hS1 hL
end TC
section TCO
variable {K : Fr} {cells slots : Nat} {σ : Mem} {cc : ByteArray} {own : String} {nL pc fr lo mc ms : Nat} {ret : Option FieldType} {Qm : Option Value → Mem → Prop} {Em : String → Mem → Prop} {lv : List (Option Value)} {st : List Value}
/-- a call of the builder's superclass's method that the builder overrides -/
theorem g_callO (B : Bd K cc own nL ret fr lo mc ms Qm Em) (k : Nat) (hk : k < oCnt (fX K) 13) {x' y' : MethodName} {i n : Nat}
    {cc' : ByteArray} {maxL' fr' lo' mc' ms' : Nat} {ret' : Option FieldType} {As : List Value} {Qm' : Option Value → Mem → Prop} {Em' : String → Mem → Prop} (hM : MetG (fL K) (fX K) y' cc' maxL' ret' fr' lo' mc' ms' (.ref (xad (fX K) 13 k) :: As) σ Qm' Em')
    (hcode : Cond.code y' cc' maxL' ret' ∈ lw_good) (hlink : Cond.methodLink own i x' ∈ lw_good) (hsame : Cond.sameMethod x'.cls x'.cls x'.name x'.desc ∈ lw_good) (hinst0 : Cond.instanceMethod ⟨x'.cls, x'.name, x'.desc⟩ ∈ lw_good) {b0 : ByteArray} {m0 : Nat} {r0 : Option FieldType} (h0 : Cond.code ⟨x'.cls, x'.name, x'.desc⟩ b0 m0 r0 ∈ lw_good) (hinst : Cond.instanceMethod y' ∈ lw_good) (hsel : Cond.selects "java/lang/StringBuilder" x' y' ∈ lw_good) (hini : Cond.initialized y'.cls ∈ lw_good)
    (hd : x'.cls ≠ "java/lang/invoke/MethodHandle" ∧ x'.cls ≠ "java/lang/invoke/VarHandle" ∧ (parseMethodDescriptor x'.desc).map (fun d => d.parameters.length) = some n) (hn : As.length = n) (hfr : fr' + 1 ≤ fr) (hlo : 8 + (maxL' + 11) + lo' ≤ lo) (hst : (st.map fun v => v.category).sum ≤ 8) (hdg : decode cc pc = .ok (.invokevirtual i, 3))
    (hc : cells + mc' ≤ mc) (hs : slots + ms' ≤ ms) (hE : ∀ E σ', Em' E σ' → Em E σ')
    {np : Nat} (hp : pc + 3 = np) (kk : ∀ (r : Option Value) (σ' : Mem), Qm' r σ' → Go K (cells + mc') (slots + ms') σ' np lv (r.toList ++ st)) : Go K cells slots σ pc lv (As.reverse ++ .ref (xad (fX K) 13 k) :: st) := by
  subst hp
  refine g_ran B (a := (Value.ref (xad (fX K) 13 k) :: As).toArray) (fun H locs ls hC hD hS hL => ?_) hc hs hE rfl kk
  have hP : va_P (xD (fX K)) vwCl [(adr (fX K) σ 13 k, el (fX K) σ 13 k)] H := by
    intro j q hq
    match j, hq with
    | 0, hq => cases hq; exact hC 13 k hk
    | j + 1, hq => simp at hq
  have F := B.1
  have hT : GoodIn lw_good (va_wsO own i "java/lang/StringBuilder" x'.cls x' y' (Cond.code y' cc' maxL' ret' :: lw_good)) := by
    intro w hw
    have h2 : w ∈ lw_good := by
      unfold va_wsO at hw
      simp only [List.cons_append, List.nil_append, List.mem_cons] at hw
      rcases hw with e | e | e | e | e | e | e | e
      · rw [e]; exact hlink
      · rw [e]; exact hsame
      · rw [e]; exact hinst0
      · rw [e]; exact hsel
      · rw [e]; exact hinst
      · rw [e]; exact hini
      · rw [e]; exact hcode
      · exact e
    exact ⟨h2, good_of_word (List.mem_filter.mp h2).2⟩
  have hfx : CallFix (fP K) (fM K) (fC K) cc nL (fS K) (fA K) lw_good own := ⟨F.x, F.b, F.ml.trans F.n, F.o, F.w⟩
  exact vx_runU hfx hM (va_cwO n F.w hT rfl rfl rfl h0 ⟨hd.1, hd.2.1, hd.2.2⟩ ⟨by rw [B.2.1]; exact hfr, by rw [B.2.1]; exact hlo⟩)
    ⟨fun a U g mk q => ⟨q.1, q.2.moved (State.WarmedH.refl U) rfl⟩, va_recv (q0 := 0) (ci := 1) (q := (RJ4, TJ4, 4)) F.k hP rfl rfl, fun U hU hW => ⟨rfl, bd_wd F hC hD hS hU hW⟩⟩ rfl hn (hL.1.trans F.n) rfl (lv_room hst) hdg (by rw [B.2.1]; exact ⟨hc, hs⟩)
end TCO
set_option maxHeartbeats 4000000 in
theorem o_strC {l : Launch} {x : Ctx} (hl : l.stackTraces = false) {k : Nat} (hk : k < oCnt x 13) (hT2 : xen x 30 2 = 1) (hT3 : xen x 30 3 = 0) (σ : Mem) {n : Nat} (hok : TsOk σ k n) (hz : rd σ 20 0 0 = 0) :
    Met l yJ0_init_db425 (Cond.code yJ0_init_db425 cJ0_init_db425 5 none :: lw_good) ({ frames := 4, cells := 1, slots := n, locals := 200 }) (va_Pc [.ref (xad x 20 0), .ref (xad x 13 k), .null] (Wd x σ)) (QT x σ k n) 1 n (XA x) := by
  refine MetC.of hl (by decide) (Nat.le_of_ble_eq_true rfl) [some (.ref (xad x 20 0)), some (.ref (xad x 13 k)), some .null, none, none] rfl (fun K B eQ hnm hx _ _ => ?_)
  subst hx
  have F := B.1
  have hR : fR K = ({ frames := 4, cells := 1, slots := n, locals := 200 } : Room) := B.2.1
  have c20 : 0 < oCnt (fX K) 20 := by
    show 0 < xen (fX K) 30 2 + xen (fX K) 30 3
    omega
  obtain ⟨k1, k3, kn, kc, kf⟩ := hok
  refine g_aload_n (np := 1) F dJ0_init_db425_0 rfl rfl ?_
  refine g_objInit (np := 4) F b_271 b_88 b_89 (by rw [hR]; exact Nat.le_of_ble_eq_true rfl) (by rw [hR]; exact Nat.le_of_ble_eq_true rfl) dJ0_init_db425_1 rfl ?_
  refine g_aload_n (np := 5) F dJ0_init_db425_4 rfl rfl ?_
  refine g_callU (np := 8) B k hk (x' := yJ5_getValue_6d5f1) (n := 0) (As := []) (oJ5_getValue B.1.tr k hk σ) b_276 b_272 b_274 b_273 b_275 b_37 rfl (by decide +kernel) rfl (Nat.le_of_ble_eq_true rfl) (Nat.le_of_ble_eq_true rfl) (Nat.le_of_ble_eq_true rfl) dJ0_init_db425_5 (Nat.zero_le _) (Nat.zero_le _) (fun _ _ q => absurd q id) rfl (fun r τ hr => ?_)
  rw [hr.1, hr.2]
  clear hr τ r
  show Go K _ _ σ 8 _ (.ref (σ.2.1 k) :: [])
  refine g_astore_n (np := 9) (lv' := [some (.ref (xad (fX K) 20 0)), some (.ref (xad (fX K) 13 k)), some .null, some (.ref (σ.2.1 k)), none]) F dJ0_init_db425_8 (by decide) rfl rfl rfl ?_
  refine g_aload_n (np := 10) F dJ0_init_db425_9 rfl rfl ?_
  refine g_callO (np := 13) B k hk (x' := yJ5_length_8abf5) (n := 0) (As := []) (oJ4_length_8abf5 (l := fL K) B.1.tr k hk σ (fun r τ2 => r = nI n ∧ τ2 = σ) (fun _ _ => False) ⟨rfl, k3, rfl⟩) b_282 b_277 b_279 b_278 b_284 b_281 b_280 b_38 (by decide +kernel) rfl (Nat.le_of_ble_eq_true rfl) (Nat.le_of_ble_eq_true rfl) (Nat.le_of_ble_eq_true rfl) dJ0_init_db425_10 (Nat.zero_le _) (Nat.zero_le _) (fun _ _ q => absurd q id) rfl (fun r τ2 hr => ?_)
  obtain ⟨r, rfl, hr⟩ := hr
  rw [hr.1, hr.2]
  clear hr
  refine g_istore (np := 15) (lv' := [some (.ref (xad (fX K) 20 0)), some (.ref (xad (fX K) 13 k)), some .null, some (.ref (σ.2.1 k)), some (.int (nI n))]) F dJ0_init_db425_13 (by decide) rfl rfl rfl ?_
  refine g_aload_n (np := 16) F dJ0_init_db425_15 rfl rfl ?_
  refine gc_java_lang_String_1047 (np := 19) B k hk (oJ5_isLatin1_aae02 (l := fL K) B.1.tr k hk σ (fun r τ2 => r = 1 ∧ τ2 = σ) _ ⟨fun q => absurd k1 q, fun _ => ⟨rfl, rfl⟩⟩) (Nat.le_of_ble_eq_true rfl) (Nat.le_of_ble_eq_true rfl) (Nat.le_of_ble_eq_true rfl) (Nat.zero_le _) (Nat.zero_le _) dJ0_init_db425_16 rfl (fun r τ2 hr => ?_)
  rw [hr.1, hr.2]
  clear hr
  refine g_if_eq (np := 22) (tgt := 41) F dJ0_init_db425_19 (by decide) rfl (fun q => absurd q (by decide)) (fun _ => ?_)
  refine g_aload_n (np := 23) F dJ0_init_db425_22 rfl rfl ?_
  refine g_iconst (v := 0) (np := 24) F dJ0_init_db425_23 (by decide) rfl ?_
  refine g_putC (np := 27) F (hnm.trans rfl) c20 b_385 dJ0_init_db425_24 rfl ?_
  obtain ⟨ρ, hρ⟩ : ∃ ρ, ρ = wr σ 20 0 1 0 := ⟨_, rfl⟩
  rw [← hρ]
  have er : ∀ f k' s : Nat, ¬ (f = 20 ∧ k' = 0 ∧ s = 1) → rd ρ f k' s = rd σ f k' s := fun f k' s q => by rw [hρ, rd_wr, if_neg q]
  have e2 : ρ.2 = σ.2 := by rw [hρ]; rfl
  have elv : ([some (.ref (xad (fX K) 20 0)), some (.ref (xad (fX K) 13 k)), some .null, some (.ref (σ.2.1 k)), some (.int (nI n))] : List (Option Value)) = [some (.ref (xad (fX K) 20 0)), some (.ref (xad (fX K) 13 k)), some .null, some (.ref (ρ.2.1 k)), some (.int (nI n))] := by rw [e2]
  rw [elv]
  refine g_aload_n (np := 28) F dJ0_init_db425_27 rfl rfl ?_
  refine g_aload_n (np := 29) F dJ0_init_db425_28 rfl rfl ?_
  refine g_iconst (v := 0) (np := 30) F dJ0_init_db425_29 (by decide) rfl ?_
  refine g_iload (np := 32) F dJ0_init_db425_30 rfl rfl ?_
  intro H locs ls hC hD hS hL
  have hfx : CallFix (fP K) (fM K) (fC K) cJ0_init_db425 5 (fS K) (fA K) lw_good "java/lang/String" := ⟨F.x, F.b, F.ml.trans F.n, F.o, F.w⟩
  have hG : GoodIn lw_good (Cond.code yJ7_copyOfRange_39247 cJ7_copyOfRange_39247 3 (some (.array .byte)) :: lw_good) := by
    intro w hw
    have h2 : w ∈ lw_good := by
      rcases List.mem_cons.mp hw with e | e
      · rw [e]; exact b_288
      · exact e
    exact ⟨h2, good_of_word (List.mem_filter.mp h2).2⟩
  have kn' : n ≤ ρ.2.2.1 k := by rw [e2]; exact kn
  have kc' : ρ.2.2.1 k ≤ 150 := by rw [e2]; exact kc
  have kf' : ∀ j, j < ρ.2.2.1 k → fits .byte (.int (rd ρ 16 k j)) = true := fun j hj => by
    rw [er 16 k j (by omega)]
    rw [e2] at hj
    exact kf j hj
  have run : va_Run (fP K) (fL K) (fE K) (fR K) (fS K) (fM K) (fA K) (fB K) (fMe K) (fC K) H locs 0 0 1 n (F0 (fM K) 32 ls [.int (nI n), .int 0, .ref (ρ.2.1 k), .ref (xad (fX K) 20 0)]) [.ref (xad (fX K) 20 0)] (QC (fX K) ρ k n ([.ref (ρ.2.1 k), .int 0, .int (nI n)] : List Value).toArray) (XA (fX K)) :=
    va_runS (g := F0 (fM K) 32 ls [.int (nI n), .int 0, .ref (ρ.2.1 k), .ref (xad (fX K) 20 0)]) (rest := [.ref (xad (fX K) 20 0)]) (cells := 0) (slots := 0) (H := H) (locs := locs) hfx (o_copyR (l := fL K) (x := fX K) B.1.tr hk ρ kn' kc' kf') ⟨callB_of 3 F.w hG rfl rfl rfl (F.w _ b_56) (F.w _ b_286) (by decide +kernel) ⟨by rw [hR]; exact Nat.le_of_ble_eq_true rfl, by rw [hR]; exact Nat.le_of_ble_eq_true rfl⟩, F.w _ b_287⟩
      ⟨fun a U g mk q => ⟨q.1, q.2.moved (State.WarmedH.refl U) rfl⟩, fun U hU hW => ⟨rfl, bd_wd F hC hD hS hU hW⟩⟩ rfl rfl (hL.1.trans F.n) rfl (lv_room (Nat.le_of_ble_eq_true rfl)) dJ0_init_db425_32 (by rw [hR]; exact ⟨Nat.le_refl _, Nat.le_of_eq (Nat.zero_add n)⟩)
  intro T hT X
  obtain ⟨v, st₀, t, T', L, h0, X', hfl, e1, e10, ⟨⟨b, g, hv, hg, hC1, hD1, hbb, hat⟩, hzz⟩, hgo⟩ := run T hT X
  cases hv
  have hS' : va_S (XA (fX K)) (fS K).heap T'.heap (locs ++ L) := by
    refine ⟨?_, ?_, ?_⟩
    · rw [e1]
      exact Nat.le_trans hS.1 (by have := hzz.1; rw [h0] at this; exact this)
    · intro q h1 h2
      rw [e1]
      have h3 := hzz.2 q (by rw [h0]; exact Nat.lt_of_lt_of_le h1 hS.1) h2
      rw [h3, h0]
      exact hS.2.1 q h1 h2
    · intro z hz9
      rcases List.mem_append.mp hz9 with h | h
      · exact hS.2.2 z h
      · exact hfl z h
  obtain ⟨hP2, hD2⟩ := ws_add (e := .inl (xct (fX K) 3, n, .inl g)) (H := T'.heap) (by rw [e1]; exact hC1) hD1 hbb (by rw [e1]; exact hat)
  obtain ⟨q0, hq0⟩ := ws_at (fX K) ρ (f := 20) (k := 0) c20
  have hq0l := (List.getElem?_eq_some_iff.mp hq0).1
  have hz' : rd ρ 20 0 0 = 0 := (er 20 0 0 (by omega)).trans hz
  have he : (WS (fX K) ρ ++ [(b, .inl (xct (fX K) 3, n, .inl g))])[q0]? = some (xad (fX K) 20 0, .inr (0, [.null, .int (rd ρ 20 0 1), .int (rd ρ 20 0 2), .int (rd ρ 20 0 3)])) := by
    rw [List.getElem?_append_left hq0l, hq0]
    show some (xad (fX K) 20 0, (Sum.inr (0, [va_rf (if rd ρ 20 0 0 = 0 then none else some (ρ.2.2.2.1 0)), .int (rd ρ 20 0 1), .int (rd ρ 20 0 2), .int (rd ρ 20 0 3)]) : va_E)) = _
    rw [if_pos hz']
    rfl
  have KK : W (fP K) (fL K) (fE K) (fR K) (fS K) (fM K) (fA K) (fB K) (fMe K) (fC K) T'.heap (locs ++ L) (0 + 1) (0 + n) (fQ K) (F0 (fM K) 35 ls [.ref b, .ref (xad (fX K) 20 0)]) := by
    refine va_putF F.x F.b F.w inJ0 tyJ0 tyJ0_ok nmJ0 F.o F.k hP2 hD2 hS' q0 (a := xad (fX K) 20 0) (ci := 0) (C := RJ0) (T := TJ0) (N := 4) he rfl 0 (by decide) (F.w _ b_384) (fun _ h => h) rfl (hnm.trans rfl) rfl (ty := .array .byte) (v := .ref b) (by decide +kernel) rfl rfl (Nat.le_of_ble_eq_true rfl) dJ0_init_db425_35 (fun H1 locs1 hP1 _ hS1 => ?_)
    refine lv_goto F.x F.b (tgt := 97) dJ0_init_db425_38 (by decide) ?_
    rw [eQ]
    refine W.widen (Nat.le_refl _) (Nat.le_of_eq (Nat.zero_add n)) (vx_ret (W.vret F.x F.b (B.2.2.1.trans rfl) (fun t9 ht _ => ⟨⟨mkT ρ b n g, rfl, ⟨fun f k' s h20 h21 => ?_, ?_, ?_, rfl, fun j hj => ?_, ?_⟩, ?_, dis_SY hT2 hT3 hD1 hbb⟩, hS1.F ht⟩) hS1.2.2 dJ0_init_db425_97 F.lk))
    · rw [rd_mkT (by omega) (by omega), er f k' s (by omega)]
    · show ¬ (1 : Int32) = 0
      decide
    · rw [rd_mkT (by omega) (by omega), hρ, rd_wr, if_pos ⟨rfl, rfl, rfl⟩]
    · have e9 : rd (mkT ρ b n g) 21 0 j = g j := by
        show (if (21 : Nat) = 20 ∧ (0 : Nat) = 0 ∧ j = 0 then (1 : Int32) else if (21 : Nat) = 21 ∧ (0 : Nat) = 0 then g j else ρ.1 21 0 j) = _
        rw [if_neg (by omega), if_pos ⟨rfl, rfl⟩]
      rw [e9, hg j hj, er 16 k j (by omega)]
    · show ρ.2.2.1 = σ.2.2.1
      rw [e2]
    · rw [ht]
      exact cells_SY hT2 hT3 hD1 hz' hbb.1 hq0 hP1
  obtain ⟨t2, a1, b1⟩ := KK T' rfl X'
  exact ⟨t2, hgo t2 a1, b1⟩

set_option maxHeartbeats 4000000 in
theorem o_strB {l : Launch} {x : Ctx} (hl : l.stackTraces = false) {k : Nat} (hk : k < oCnt x 13) (hT2 : xen x 30 2 = 1) (hT3 : xen x 30 3 = 0) (σ : Mem) {n : Nat} (hok : TsOk σ k n) (hz : rd σ 20 0 0 = 0) :
    Met l yJ0_init_81219 (Cond.code yJ0_init_81219 cJ0_init_81219 2 none :: lw_good) ({ frames := 5, cells := 1, slots := n, locals := 240 }) (va_Pc [.ref (xad x 20 0), .ref (xad x 13 k)] (Wd x σ)) (QT x σ k n) 1 n (XA x) := by
  refine MetC.of hl (by decide) (Nat.le_of_ble_eq_true rfl) [some (.ref (xad x 20 0)), some (.ref (xad x 13 k))] rfl (fun K B eQ hnm hx _ _ => ?_)
  subst hx
  have F := B.1
  have hR : fR K = ({ frames := 5, cells := 1, slots := n, locals := 240 } : Room) := B.2.1
  refine g_aload_n (np := 1) F dJ0_init_81219_0 rfl rfl ?_
  refine g_aload_n (np := 2) F dJ0_init_81219_1 rfl rfl ?_
  refine g_null (np := 3) F dJ0_init_81219_2 rfl ?_
  intro H locs ls hC hD hS hL
  have hfx : CallFix (fP K) (fM K) (fC K) cJ0_init_81219 2 (fS K) (fA K) lw_good "java/lang/String" := ⟨F.x, F.b, F.ml.trans F.n, F.o, F.w⟩
  have run : va_Run (fP K) (fL K) (fE K) (fR K) (fS K) (fM K) (fA K) (fB K) (fMe K) (fC K) H locs 0 0 1 n (F0 (fM K) 3 ls [.null, .ref (xad (fX K) 13 k), .ref (xad (fX K) 20 0)]) [] (QT (fX K) σ k n ([.ref (xad (fX K) 20 0), .ref (xad (fX K) 13 k), .null] : List Value).toArray) (XA (fX K)) :=
    va_runI (As := [.ref (xad (fX K) 13 k), .null]) (rest := []) hfx (o_strC (l := fL K) (x := fX K) F.tr hk hT2 hT3 σ hok hz) (cwI 2 F.w (good_c b_270) rfl rfl rfl (F.w _ b_39) (F.w _ b_268) (F.w _ b_269) rfl (by decide +kernel) ⟨by rw [hR]; exact Nat.le_of_ble_eq_true rfl, by rw [hR]; exact Nat.le_of_ble_eq_true rfl⟩)
      ⟨fun a U g mk q => ⟨q.1, q.2.moved (State.WarmedH.refl U) rfl⟩, fun U hU hW => ⟨rfl, bd_wd F hC hD hS hU hW⟩⟩ rfl rfl (hL.1.trans F.n) rfl (lv_room (Nat.le_of_ble_eq_true rfl)) dJ0_init_81219_3 (by rw [hR]; exact ⟨Nat.le_refl _, Nat.le_of_eq (Nat.zero_add n)⟩)
  intro T hT X
  obtain ⟨v, st₀, t, T', L, h0, X', hfl, e1, e10, ⟨⟨σ', hv, hN, hC1, hD1⟩, hzz⟩, hgo⟩ := run T hT X
  cases hv
  have hS' : va_S (XA (fX K)) (fS K).heap T'.heap (locs ++ L) := by
    refine ⟨?_, ?_, ?_⟩
    · rw [e1]
      exact Nat.le_trans hS.1 (by have := hzz.1; rw [h0] at this; exact this)
    · intro q h1 h2
      rw [e1]
      have h3 := hzz.2 q (by rw [h0]; exact Nat.lt_of_lt_of_le h1 hS.1) h2
      rw [h3, h0]
      exact hS.2.1 q h1 h2
    · intro z hz9
      rcases List.mem_append.mp hz9 with h | h
      · exact hS.2.2 z h
      · exact hfl z h
  have KK : W (fP K) (fL K) (fE K) (fR K) (fS K) (fM K) (fA K) (fB K) (fMe K) (fC K) T'.heap (locs ++ L) (0 + 1) (0 + n) (fQ K) (F0 (fM K) 6 ls []) := by
    rw [eQ]
    exact W.widen (Nat.le_refl _) (Nat.le_of_eq (Nat.zero_add n)) (vx_ret (W.vret F.x F.b (B.2.2.1.trans rfl) (fun t9 ht _ => ⟨⟨σ', rfl, hN, by rw [ht, e1]; exact hC1, hD1⟩, hS'.F ht⟩) hS'.2.2 dJ0_init_81219_6 F.lk))
  obtain ⟨t2, a1, b1⟩ := KK T' rfl X'
  exact ⟨t2, hgo t2 a1, b1⟩
/-! a text's object joins the world -/
def newS (σ : Mem) : Mem := (fun f k s => if f = 20 ∧ k = 0 then 0 else σ.1 f k s, σ.2)
theorem ext_ST {x : Ctx} (h2 : xen x 30 2 = 0) (h3 : xen x 30 3 = 0) (a : Nat) : Ext x (xST x a) := by
  refine ⟨⟨rfl, rfl, rfl⟩, fun f j hf => ?_, fun f k hk => ?_, fun f => ?_⟩
  · show (if f = 30 ∧ j = 2 then 1 else xen x f j) = _
    rw [if_neg (by omega)]
  · show (if f = 20 ∧ k = 0 then a else xad x f k) = _
    rw [if_neg]
    rintro ⟨rfl, rfl⟩
    have : oCnt x 20 = xen x 30 2 + xen x 30 3 := rfl
    omega
  · by_cases e : f = 20
    · subst e
      show xen x 30 2 + xen x 30 3 ≤ 1 + xen x 30 3
      omega
    · exact Nat.le_of_eq (cnt_same (x := x) (y := xST x a) (fun _ => rfl) (fun _ => rfl) (fun q => absurd q e) (fun _ => rfl)).symm
theorem cells_ST {x : Ctx} (h2 : xen x 30 2 = 0) (h3 : xen x 30 3 = 0) {σ : Mem} {a : Nat} {H1 : Heap} (hP : va_P (xD x) vwCl (WS x σ ++ [((a, .inr (0, [.null, .int 0, .int 0, .int 0])) : Nat × va_E)]) H1) (hD : Dis x σ) (hDa : va_D (XA x) (WS x σ ++ [((a, .inr (0, [.null, .int 0, .int 0, .int 0])) : Nat × va_E)])) : Cells (xST x a) (newS σ) H1 ∧ Dis (xST x a) (newS σ) := by
  have hE := ext_ST h2 h3 a
  obtain ⟨hC, ⟨hf, hb⟩, hat⟩ := ws_push hP hDa
  have hcnt : ∀ f k : Nat, k < oCnt (xST x a) f → ¬ f = 20 → k < oCnt x f := fun f k h1 e => by
    rw [← cnt_same (x := x) (y := xST x a) (fun _ => rfl) (fun _ => rfl) (fun q => absurd q e) (fun _ => rfl)]
    exact h1
  have h20 : ∀ k : Nat, k < oCnt (xST x a) 20 → k = 0 := fun k h1 => by
    have : oCnt (xST x a) 20 = 1 + xen x 30 3 := rfl
    omega
  have had : ∀ f k : Nat, k < oCnt (xST x a) f → ¬ f = 20 → adr (xST x a) (newS σ) f k = adr x σ f k := fun f k h1 e => hE.aq (hcnt f k h1 e)
  have h0a : adr (xST x a) (newS σ) 20 0 = a := rfl
  refine ⟨fun f k hk => ?_, fun f k f' k' q1 q2 e => ?_, fun f k q1 => ?_⟩
  · by_cases e : f = 20
    · subst e
      obtain rfl := h20 k hk
      have e2 : el (xST x a) (newS σ) 20 0 = .inr (0, [.null, .int 0, .int 0, .int 0]) := rfl
      rw [h0a, e2]
      exact hat
    · have h1 := hcnt f k hk e
      rw [had f k hk e, hE.eq2 h1, el_congr (σ' := newS σ) (σ := σ) (fun s => by show (if f = 20 ∧ k = 0 then (0 : Int32) else _) = _; rw [if_neg (fun q => e q.1)]; rfl) rfl]
      exact hC f k h1
  · by_cases e1 : f = 20 <;> by_cases e2 : f' = 20
    · subst e1
      subst e2
      exact ⟨rfl, (h20 k q1).trans (h20 k' q2).symm⟩
    · subst e1
      obtain rfl := h20 k q1
      rw [h0a, had f' k' q2 e2] at e
      exact absurd e.symm (hf f' k' (hcnt f' k' q2 e2))
    · subst e2
      obtain rfl := h20 k' q2
      rw [h0a, had f k q1 e1] at e
      exact absurd e (hf f k (hcnt f k q1 e1))
    · rw [had f k q1 e1, had f' k' q2 e2] at e
      exact hD.1 f k f' k' (hcnt f k q1 e1) (hcnt f' k' q2 e2) e
  · by_cases e1 : f = 20
    · subst e1
      obtain rfl := h20 k q1
      rw [h0a]
      exact hb
    · rw [had f k q1 e1]
      exact hD.2 f k (hcnt f k q1 e1)
set_option maxHeartbeats 4000000 in
theorem o_toS {l : Launch} {x : Ctx} (hl : l.stackTraces = false) {k : Nat} (hk : k < oCnt x 13) (h2 : xen x 30 2 = 0) (h3 : xen x 30 3 = 0) (σ : Mem) {n : Nat} (hok : TsOk σ k n) :
    Met l yJ4_toString_0e30d (Cond.code yJ4_toString_0e30d cJ4_toString_0e30d 1 (some (.object "java/lang/String")) :: lw_good) ({ frames := 6, cells := 2, slots := n + 4, locals := 280 }) (va_Pc [.ref (xad x 13 k)] (Wd x σ)) (QS x σ k n) 2 (n + 4) (XA x) := by
  refine MetC.of hl (by decide) (Nat.le_of_ble_eq_true rfl) [some (.ref (xad x 13 k))] rfl (fun K B eQ hnm hx _ _ => ?_)
  subst hx
  have F := B.1
  have hR : fR K = ({ frames := 6, cells := 2, slots := n + 4, locals := 280 } : Room) := B.2.1
  intro H locs ls hC hD hS hL
  refine va_new (fs := [.null, .int 0, .int 0, .int 0]) F.x F.b F.w inJ0 tyJ0 tyJ0_ok F.o (F.w _ b_263) (F.w _ b_264) (F.w _ b_39) F.k (ws_P hC) (ws_D hD) hS (fun z hz => Nat.le_trans F.h hz) (ci := 0) (C := RJ0) (T := TJ0) (N := 4) rfl (fun j hj => by match j, hj with | 0, _ => rfl | 1, _ => rfl | 2, _ => rfl | 3, _ => rfl | _ + 4, hj => exact absurd hj (by omega)) (by rw [hR]; show 0 + 1 ≤ 2; omega) (by rw [hR]; show 0 + 4 ≤ n + 4; omega) dJ4_toString_0e30d_0 (fun a H1 hP1 hD1 hS1 => ?_)
  obtain ⟨hC9, hD9⟩ := cells_ST h2 h3 hP1 hD hD1
  have hE := ext_ST h2 h3 a
  refine lv_dup F.x F.b dJ4_toString_0e30d_3 rfl ?_
  refine lv_aload_n F.x F.b dJ4_toString_0e30d_4 rfl (hL.2.2 0 _ rfl) ?_
  have F2 := F.set hE
  have hS2 : va_S (XA (xST (fX K) a)) (fS K).heap H1 locs := hS1
  have hfx : CallFix (fP K) (fM K) (fC K) cJ4_toString_0e30d 1 (fS K) (fA K) lw_good "java/lang/StringBuilder" := ⟨F.x, F.b, F.ml.trans F.n, F.o, F.w⟩
  have hok2 : TsOk (newS σ) k n := by
    obtain ⟨q1, q2, q3, q4, q5⟩ := hok
    have e : ∀ f k' s : Nat, f ≠ 20 → rd (newS σ) f k' s = rd σ f k' s := fun f k' s q => if_neg (fun z => q z.1)
    exact ⟨(e 13 k 1 (by omega)).trans q1, (e 13 k 3 (by omega)).trans q2, q3, q4, fun j hj => by rw [e 16 k j (by omega)]; exact q5 j hj⟩
  have had : xad (xST (fX K) a) 13 k = xad (fX K) 13 k := hE.2.2.1 13 k (Or.inr (Or.inr hk))
  have run : va_Run (fP K) (fL K) (fE K) (fR K) (fS K) (fM K) (fA K) (fB K) (fMe K) (fC K) H1 locs (0 + 1) (0 + 4) 1 n (F0 (fM K) 5 ls [.ref (xad (fX K) 13 k), .ref a, .ref a]) [.ref a] (QT (xST (fX K) a) (newS σ) k n ([.ref a, .ref (xad (fX K) 13 k)] : List Value).toArray) (XA (xST (fX K) a)) := by
    have hM := o_strB (l := fL K) (x := xST (fX K) a) F.tr (Nat.lt_of_lt_of_le hk (hE.2.2.2 13)) rfl h3 (newS σ) hok2 rfl
    rw [had] at hM
    exact va_runI (As := [.ref (xad (fX K) 13 k)]) (rest := [.ref a]) hfx hM (cwI 1 F.w (good_c b_267) rfl rfl rfl (F.w _ b_39) (F.w _ b_265) (F.w _ b_266) rfl (by decide +kernel) ⟨by rw [hR]; exact Nat.le_of_ble_eq_true rfl, by rw [hR]; exact Nat.le_of_ble_eq_true rfl⟩)
      ⟨fun a U g mk q => ⟨q.1, q.2.moved (State.WarmedH.refl U) rfl⟩, fun U hU hW => ⟨rfl, bd_wd F2 hC9 hD9 hS2 hU hW⟩⟩ rfl rfl (hL.1.trans F.n) rfl (lv_room (Nat.le_of_ble_eq_true rfl)) dJ4_toString_0e30d_5 (by rw [hR]; exact ⟨by show 0 + 1 + 1 ≤ 2; omega, by show 0 + 4 + n ≤ n + 4; omega⟩)
  intro T hT X
  obtain ⟨v, st₀, t, T', L, h0, X', hfl, e1, e10, ⟨⟨σ', hv, hN, hC2, hD2⟩, hzz⟩, hgo⟩ := run T hT X
  cases hv
  have hS' : va_S (XA (fX K)) (fS K).heap T'.heap (locs ++ L) := by
    refine ⟨?_, ?_, ?_⟩
    · rw [e1]
      exact Nat.le_trans hS1.1 (by have := hzz.1; rw [h0] at this; exact this)
    · intro q h1 h2
      rw [e1]
      have h3 := hzz.2 q (by rw [h0]; exact Nat.lt_of_lt_of_le h1 hS1.1) h2
      rw [h3, h0]
      exact hS1.2.1 q h1 h2
    · intro z hz9
      rcases List.mem_append.mp hz9 with h | h
      · exact hS1.2.2 z h
      · exact hfl z h
  have hN2 : NewT σ σ' k n := by
    have e : ∀ f k' s : Nat, f ≠ 20 → rd (newS σ) f k' s = rd σ f k' s := fun f k' s q => if_neg (fun z => q z.1)
    obtain ⟨q1, q2, q3, q4, q5, q6⟩ := hN
    exact ⟨fun f k' s a1 a2 => (q1 f k' s a1 a2).trans (e f k' s a1), q2, q3, q4, fun j hj => (q5 j hj).trans (e 16 k j (by omega)), q6⟩
  have KK : W (fP K) (fL K) (fE K) (fR K) (fS K) (fM K) (fA K) (fB K) (fMe K) (fC K) T'.heap (locs ++ L) (0 + 1 + 1) (0 + 4 + n) (fQ K) (F0 (fM K) 8 ls [.ref a]) := by
    rw [eQ]
    exact W.widen (Nat.le_refl _) (by omega) (vx_ret (W.aret F.x F.b (B.2.2.1.trans rfl) (Or.inl ⟨_, rfl⟩) (Or.inr ⟨_, rfl⟩) (fun t9 ht _ => ⟨⟨a, σ', rfl, hN2, by rw [ht, e1]; exact hC2, hD2⟩, hS'.F ht⟩) hS'.2.2 dJ4_toString_0e30d_8 F.lk))
  obtain ⟨t2, a1, b1⟩ := KK T' rfl X'
  exact ⟨t2, hgo t2 a1, b1⟩
/-! the law's call of toString -/
section TS
variable {K : Fr} {cells slots : Nat} {σ : Mem} {cc : ByteArray} {nL pc fr lo mc ms : Nat} {ret : Option FieldType} {Qm : Option Value → Mem → Prop} {Em : String → Mem → Prop} {lv : List (Option Value)} {st : List Value}
theorem ext_TS {x : Ctx} (h2 : xen x 30 2 = 0) (h3 : xen x 30 3 = 0) (a : Nat) : Ext x (xSY (xST x a)) := (ext_ST h2 h3 a).tr (ext_SY rfl h3)
set_option maxHeartbeats 4000000 in
theorem g_toStr (B : Bd K cc "YarnMillLaw" nL ret fr lo mc ms Qm Em) (h2 : xen (fX K) 30 2 = 0) (h3 : xen (fX K) 30 3 = 0) {k : Nat} (hk : k < oCnt (fX K) 13) {n : Nat} (hok : TsOk σ k n) (hn : n ≤ 60) (lvf : Ctx → List (Option Value)) (stf : Ctx → List Value) (hlv : ∀ x a, lvf (xSY (xST x a)) = lvf x) (hst : ∀ x a, stf (xSY (xST x a)) = stf x) (hst8 : ((stf (fX K)).map fun v => v.category).sum ≤ 7)
    (hdg : decode cc pc = .ok (.invokevirtual 165, 3)) (hfr : 7 ≤ fr) (hlo : 300 ≤ lo) (hc : cells + 2 ≤ mc) (hs : slots + 64 ≤ ms) {np : Nat} (hp : pc + 3 = np)
    (kk : ∀ a : Nat, Ext (fX K) (xSY (xST (fX K) a)) → 0 < oCnt (xSY (xST (fX K) a)) 21 → ∀ σ' : Mem, NewT σ σ' k n → Go (setX K (xSY (xST (fX K) a))) (cells + 2) (slots + 64) σ' np (lvf (xSY (xST (fX K) a))) (.ref (xad (xSY (xST (fX K) a)) 20 0) :: stf (xSY (xST (fX K) a)))) : Go K cells slots σ pc (lvf (fX K)) (.ref (xad (fX K) 13 k) :: stf (fX K)) := by
  subst hp
  intro H locs ls hC hD hS hL
  have F := B.1
  have hR : fR K = ({ frames := fr, cells := mc, slots := ms, locals := lo } : Room) := B.2.1
  have hP : va_P (xD (fX K)) vwCl [(adr (fX K) σ 13 k, el (fX K) σ 13 k)] H := by
    intro j q hq
    match j, hq with
    | 0, hq => cases hq; exact hC 13 k hk
    | j + 1, hq => simp at hq
  have hT : GoodIn lw_good (wsV "YarnMillLaw" 165 "java/lang/StringBuilder" yJ4_toString_0e30d (Cond.code yJ4_toString_0e30d cJ4_toString_0e30d 1 (some (.object "java/lang/String")) :: lw_good)) := by
    intro w hw
    have h2 : w ∈ lw_good := by
      unfold wsV at hw
      simp only [List.cons_append, List.nil_append, List.mem_cons] at hw
      rcases hw with e | e | e | e | e | e
      · rw [e]; exact b_1304
      · rw [e]; exact b_260
      · rw [e]; exact b_261
      · rw [e]; exact b_38
      · rw [e]; exact b_262
      · exact e
    exact ⟨h2, good_of_word (List.mem_filter.mp h2).2⟩
  have hfx : CallFix (fP K) (fM K) (fC K) cc nL (fS K) (fA K) lw_good "YarnMillLaw" := ⟨F.x, F.b, F.ml.trans F.n, F.o, F.w⟩
  have run : va_Run (fP K) (fL K) (fE K) (fR K) (fS K) (fM K) (fA K) (fB K) (fMe K) (fC K) H locs cells slots 2 (n + 4) (F0 (fM K) pc ls (.ref (xad (fX K) 13 k) :: stf (fX K))) (stf (fX K)) (QS (fX K) σ k n ([.ref (xad (fX K) 13 k)] : List Value).toArray) (XA (fX K)) :=
    va_runV (As := []) (b := xad (fX K) 13 k) hfx (o_toS (l := fL K) (x := fX K) F.tr hk h2 h3 σ hok) (cwV 0 F.w hT rfl rfl rfl (by decide +kernel) ⟨by rw [hR]; exact hfr, by rw [hR]; show 8 + (1 + 11) + 280 ≤ lo; omega⟩)
      ⟨fun a U g mk q => ⟨q.1, q.2.moved (State.WarmedH.refl U) rfl⟩, va_recv (q0 := 0) (ci := 1) (q := (RJ4, TJ4, 4)) F.k hP rfl rfl, fun U hU hW => ⟨rfl, bd_wd F hC hD hS hU hW⟩⟩ rfl rfl (hL.1.trans F.n) rfl (lv_room (by omega)) hdg (by rw [hR]; exact ⟨hc, by show slots + (n + 4) ≤ ms; omega⟩)
  intro T hT9 X
  obtain ⟨v, st₀, t, T', L, h0, X', hfl, e1, e10, ⟨⟨a, σ', hv, hN, hC2, hD2⟩, hzz⟩, hgo⟩ := run T hT9 X
  cases hv
  have hS' : va_S (XA (fX K)) (fS K).heap T'.heap (locs ++ L) := by
    refine ⟨?_, ?_, ?_⟩
    · rw [e1]
      exact Nat.le_trans hS.1 (by have := hzz.1; rw [h0] at this; exact this)
    · intro q h1 h2
      rw [e1]
      have h3 := hzz.2 q (by rw [h0]; exact Nat.lt_of_lt_of_le h1 hS.1) h2
      rw [h3, h0]
      exact hS.2.1 q h1 h2
    · intro z hz9
      rcases List.mem_append.mp hz9 with h | h
      · exact hS.2.2 z h
      · exact hfl z h
  have hgo2 := kk a (ext_TS h2 h3 a) (Nat.zero_lt_one) σ' hN
  rw [hlv, hst] at hgo2
  have hW2 : W (fP K) (fL K) (fE K) (fR K) (fS K) (fM K) (fA K) (fB K) (fMe K) (fC K) T'.heap (locs ++ L) (cells + 2) (slots + (n + 4)) (fQ K) (F0 (fM K) (pc + 3) ls (.ref a :: stf (fX K))) := W.widen (Nat.le_refl _) (by omega) (hgo2 T'.heap (locs ++ L) ls (by rw [e1]; exact hC2) hD2 hS' hL)
  obtain ⟨t2, a1, b1⟩ := hW2 T' rfl X'
  exact ⟨t2, hgo t2 a1, b1⟩
end TS
