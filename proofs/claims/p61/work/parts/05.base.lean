/-! THE WORLD: every object of the class, the reference and the law by family and number; all int contents in one function. -/
/-- the builder's private methods select themselves -/
abbrev asbN : String := "java/lang/AbstractStringBuilder"
def lw_sb : List MethodName := [⟨asbN, "ensureCapacityInternal", "(I)V"⟩, ⟨asbN, "newCapacity", "(I)I"⟩, ⟨asbN, "putStringAt", "(ILjava/lang/String;)V"⟩, ⟨asbN, "inflateIfNeededFor", "(Ljava/lang/String;)V"⟩]
def lw_sel2 : List Cond := lw_sb.map fun y => Cond.selects "java/lang/StringBuilder" y y
def lw_all : List Cond := lw_sel2 ++ lw_tbl
def lw_good : List Cond := lw_all.filter goodWord
theorem sel_priv {C : String} {y y0 : MethodName} {s : State} {args : Array Value} (hy : y.cls ≠ "java/lang/invoke/MethodHandle" ∧ y.cls ≠ "java/lang/invoke/VarHandle") (h0 : (Cond.selects C y0 y0).before args s = true) (hc : y.cls = y0.cls)
    (hn0 : (Cond.instanceMethod y0).before args s = true) (hpriv : (Cond.privateMethod y).before args s = true) (hinst : (Cond.instanceMethod y).before args s = true) : (Cond.selects C y y).before args s = true := by
  obtain ⟨c, r, m2, q1, q2, q3, q4, kP, hkP, hkPi⟩ := Cond.selects_spec h0
  obtain ⟨mk, methM, hnamed, hmethM, -, -⟩ := Cond.instanceMethod_spec hinst
  have hfound : s.methodFound? y.cls y.name y.desc = some mk := State.methodFound?_of_named hnamed hy
  have hsel : selectMethod {} s.vm c mk = .method mk := selectMethod_private hmethM (Cond.privateMethod_at hpriv mk methM hnamed hmethM)
  have hcl : mk.cls = m2.cls := by
    have e1 := findClass_of_methodNamed hnamed
    have e2 := findClass_of_methodNamed q3
    rw [hc] at e1
    exact Option.some.inj (e1.symm.trans e2)
  simp only [Cond.before, Cond.holds, Cond.value, q1, hfound, hnamed, hsel, hcl, hkP]
  simp
  exact hkPi
theorem bB (i : Nat) {w : Cond} (h : lw_tbl[i]? = some w) (g : goodWord w = true) : w ∈ lw_good := List.mem_filter.mpr ⟨List.mem_append_right _ (List.mem_of_getElem? h), g⟩
theorem good_code {y y' : MethodName} {b b' : ByteArray} {n n' : Nat} {r r' : Option FieldType} (h : Cond.code y' b' n' r' ∈ lw_good) : GoodIn (Cond.code y b n r :: lw_good) (Cond.code y' b' n' r' :: lw_good) := by
  intro w hw
  have h2 : w ∈ lw_good := by
    rcases List.mem_cons.mp hw with e | e
    · rw [e]; exact h
    · exact e
  exact ⟨List.mem_cons_of_mem _ h2, good_of_word (List.mem_filter.mp h2).2⟩
abbrev Ctx : Type := va_G × (Nat → Nat → Nat) × (Nat → ClassId) × Nat × (Nat → Nat → Nat)
abbrev xD (x : Ctx) : va_G := x.1
abbrev xad (x : Ctx) : Nat → Nat → Nat := x.2.1
abbrev xct (x : Ctx) : Nat → ClassId := x.2.2.1
abbrev xb (x : Ctx) : Nat := x.2.2.2.1
abbrev xen (x : Ctx) : Nat → Nat → Nat := x.2.2.2.2
abbrev Mem : Type := (Nat → Nat → Nat → Int32) × (Nat → Nat) × (Nat → Nat) × (Nat → Nat) × (Nat → Nat)
def rd (σ : Mem) (f k s : Nat) : Int32 := σ.1 f k s
def wr (σ : Mem) (f k s : Nat) (v : Int32) : Mem := (fun f' k' s' => if f' = f ∧ k' = k ∧ s' = s then v else σ.1 f' k' s', σ.2)
theorem rd_wr (σ : Mem) (f k s : Nat) (v : Int32) (f' k' s' : Nat) : rd (wr σ f k s v) f' k' s' = if f' = f ∧ k' = k ∧ s' = s then v else rd σ f' k' s' := rfl
theorem wr_2 (σ : Mem) (f k s : Nat) (v : Int32) : (wr σ f k s v).2 = σ.2 := rfl
/-- how many there are of a family: builders (13, 16), seen arrays (19), texts (20, 21) grow -/
def oCnt (x : Ctx) (f : Nat) : Nat := [112, 112, 11, 11, 11, 1, 1, 1, 1, 1, 8, 1, 1, 2 + xen x 30 0, 1, 0, 2 + xen x 30 0, 0, 0, xen x 30 1, xen x 30 2 + xen x 30 3, xen x 30 3].getD f 0
theorem c20 {x : Ctx} {k : Nat} (h : k < oCnt x 21) : k < oCnt x 20 := Nat.lt_of_lt_of_le h (Nat.le_add_left _ _)
theorem cb {x : Ctx} {k : Nat} (h : k < 2) : k < oCnt x 13 := Nat.lt_of_lt_of_le h (Nat.le_add_right 2 _)
def rowCap (k : Nat) : Nat := if k = 111 then 3 else if k = 110 then 12 else if k % 10 < 5 then 10 else if k % 10 < 9 then 8 else 12
def iaLen (k : Nat) : Nat := [1024, 1024, 1024, 256, 256, 144, 144, 180].getD k 0
def cmdO (v : Int32) : Option Nat := if v = 0 then none else some (v.toNatClampNeg - 1)
def adr (x : Ctx) (σ : Mem) (f k : Nat) : Nat := if f = 16 then σ.2.1 k else if f = 21 then σ.2.2.2.1 k else xad x f k
def el (x : Ctx) (σ : Mem) (f k : Nat) : va_E := match f with
  | 0 => .inr (8, [.ref (xad x 1 k), .int (rd σ 0 k 1)])
  | 1 => .inl (xct x 0, rowCap k, .inl (fun j => rd σ 1 k j))
  | 2 => .inr (4, [.ref (xad x 0 (10 * k)), .ref (xad x 0 (10 * k + 1)), .ref (xad x 0 (10 * k + 2)), .ref (xad x 0 (10 * k + 3)), .ref (xad x 0 (10 * k + 4)), .int (rd σ 2 k 5)])
  | 3 => .inr (7, [.ref (xad x 0 (10 * k + 5)), .ref (xad x 0 (10 * k + 6)), .ref (xad x 0 (10 * k + 7)), .ref (xad x 0 (10 * k + 8)), .int (rd σ 3 k 4)])
  | 4 => .inr (11, [.ref (xad x 2 k), .ref (xad x 3 k), .ref (xad x 0 (10 * k + 9)), .int (rd σ 4 k 3), .int (rd σ 4 k 4), .int (rd σ 4 k 5), .int (rd σ 4 k 6), .int (rd σ 4 k 7), .int (rd σ 4 k 8), .int (rd σ 4 k 9), .int (rd σ 4 k 10), .int (rd σ 4 k 11)])
  | 5 => .inr (6, [.ref (xad x 6 0), .int (rd σ 5 k 1), .int (rd σ 5 k 2)])
  | 6 => .inl (xct x 4, 8, .inr (.inr (.inr (.inr (fun j => some (xad x 4 (3 + j)))))))
  | 7 => .inr (5, [.ref (xad x 10 0), .ref (xad x 10 1), .ref (xad x 10 2), .int (rd σ 7 k 3), .int (rd σ 7 k 4), .int (rd σ 7 k 5)])
  | 8 => .inr (12, [.ref (xad x 10 3), .ref (xad x 10 4), .ref (xad x 0 111), .int (rd σ 8 k 3)])
  | 9 => .inr (10, [.ref (xad x 10 5), .ref (xad x 10 6)])
  | 10 => .inl (xct x 0, iaLen k, .inl (fun j => rd σ 10 k j))
  | 11 => .inr (9, [.ref (xad x 13 0), .ref (xad x 12 0), .ref (xad x 10 7), .int (rd σ 11 k 3), .int (rd σ 11 k 4)])
  | 12 => .inl (xct x 5, 60, .inr (.inr (.inr (.inr (fun j => (cmdO (rd σ 12 k j)).map (xen x 0))))))
  | 13 => .inr (1, [.ref (σ.2.1 k), .int (rd σ 13 k 1), .int (rd σ 13 k 2), .int (rd σ 13 k 3)])
  | 14 => .inr (13, [.ref (xad x 4 0), .ref (xad x 4 1), .ref (xad x 4 2), .int (rd σ 14 k 3), .ref (xad x 5 0), .ref (xad x 7 0), .ref (xad x 8 0), .ref (xad x 9 0), .ref (xad x 0 110), .ref (xad x 11 0), .ref (xad x 13 1), .int (rd σ 14 k 11), .int (rd σ 14 k 12)])
  | 16 => .inl (xct x 3, σ.2.2.1 k, .inl (fun j => rd σ 16 k j))
  | 19 => .inl (xct x 0, 110, .inl (fun j => rd σ 19 k j))
  | 20 => .inr (0, [va_rf (if rd σ 20 k 0 = 0 then none else some (σ.2.2.2.1 k)), .int (rd σ 20 k 1), .int (rd σ 20 k 2), .int (rd σ 20 k 3)])
  | 21 => .inl (xct x 3, σ.2.2.2.2 k, .inl (fun j => rd σ 21 k j))
  | _ => .inl (xct x 3, 0, .inl (fun _ => 0))
theorem el_congr {x : Ctx} {σ σ' : Mem} {f k : Nat} (h : ∀ s, rd σ' f k s = rd σ f k s) (h2 : σ'.2 = σ.2) : el x σ' f k = el x σ f k := by
  unfold el
  split <;> simp only [h, h2]
theorem el_wr_ne {x : Ctx} {σ : Mem} {f k s : Nat} {v : Int32} {f' k' : Nat} (h : ¬ (f' = f ∧ k' = k)) : el x (wr σ f k s v) f' k' = el x σ f' k' :=
  el_congr (fun s' => by rw [rd_wr, if_neg (fun e => h ⟨e.1, e.2.1⟩)]) rfl
theorem adr_wr (x : Ctx) (σ : Mem) (f k s : Nat) (v : Int32) (f' k' : Nat) : adr x (wr σ f k s v) f' k' = adr x σ f' k' := rfl
def Cells (x : Ctx) (σ : Mem) (H : Heap) : Prop := ∀ f k, k < oCnt x f → va_at (xD x) vwCl (adr x σ f k, el x σ f k) H
def Dis (x : Ctx) (σ : Mem) : Prop := (∀ f k f' k', k < oCnt x f → k' < oCnt x f' → adr x σ f k = adr x σ f' k' → f = f' ∧ k = k') ∧ ∀ f k, k < oCnt x f → xb x ≤ adr x σ f k
def xtys (x : Ctx) : List (ClassId × FieldType) := [(xct x 0, .int), (xct x 0, .int), (xct x 0, .int), (xct x 3, .byte), (xct x 4, .object "YarnMill$Stock"), (xct x 5, .object "YarnMill$Command")]
def XA (x : Ctx) : Nat → Prop := fun q => xb x ≤ q
/-- the whole world as a list of cells -/
def wsKeys (x : Ctx) : List (Nat × Nat) := (List.range 22).flatMap fun f => (List.range (oCnt x f)).map fun k => (f, k)
def WS (x : Ctx) (σ : Mem) : va_W := (wsKeys x).map fun q => (adr x σ q.1 q.2, el x σ q.1 q.2)
theorem oCnt_lt {x : Ctx} {f k : Nat} (h : k < oCnt x f) : f < 22 := by
  rcases Nat.lt_or_ge f 22 with g | g
  · exact g
  · have : oCnt x f = 0 := by
      unfold oCnt
      rw [List.getD_eq_getElem?_getD, List.getElem?_eq_none (by simpa using g)]
      rfl
    omega
theorem wsKeys_mem {x : Ctx} {f k : Nat} : (f, k) ∈ wsKeys x ↔ k < oCnt x f := by
  unfold wsKeys
  simp only [List.mem_flatMap, List.mem_range, List.mem_map, Prod.mk.injEq]
  constructor
  · rintro ⟨f', -, k', hk, rfl, rfl⟩
    exact hk
  · intro h
    exact ⟨f, oCnt_lt h, k, h, rfl, rfl⟩
theorem ws_at (x : Ctx) (σ : Mem) {f k : Nat} (h : k < oCnt x f) : ∃ q : Nat, (WS x σ)[q]? = some (adr x σ f k, el x σ f k) := by
  obtain ⟨i, hi⟩ := List.getElem?_of_mem (wsKeys_mem.mpr h)
  exact ⟨i, by unfold WS; rw [List.getElem?_map, hi]; rfl⟩
theorem ws_of {x : Ctx} {σ : Mem} {i : Nat} {q : Nat × va_E} (h : (WS x σ)[i]? = some q) : ∃ f k, k < oCnt x f ∧ (wsKeys x)[i]? = some (f, k) ∧ q = (adr x σ f k, el x σ f k) := by
  unfold WS at h
  rw [List.getElem?_map] at h
  cases hq : (wsKeys x)[i]? with
  | none => rw [hq] at h; cases h
  | some fk =>
    rw [hq] at h
    obtain ⟨f, k⟩ := fk
    exact ⟨f, k, wsKeys_mem.mp (List.mem_of_getElem? hq), rfl, (Option.some.inj h).symm⟩
theorem ws_P {x : Ctx} {σ : Mem} {H : Heap} (h : Cells x σ H) : va_P (xD x) vwCl (WS x σ) H := by
  intro i q hq
  obtain ⟨f, k, hk, -, rfl⟩ := ws_of hq
  exact h f k hk
theorem wsKeys_nd (x : Ctx) : (wsKeys x).Nodup := by
  unfold wsKeys List.Nodup
  rw [List.pairwise_flatMap]
  refine ⟨fun f _ => ?_, ?_⟩
  · rw [List.pairwise_map]
    refine List.Pairwise.imp ?_ (List.nodup_range (n := oCnt x f))
    intro a b hab e
    exact hab (congrArg Prod.snd e)
  · refine List.Pairwise.imp ?_ (List.nodup_range (n := 22))
    intro f g hfg a ha b hb e
    obtain ⟨i, -, rfl⟩ := List.mem_map.mp ha
    obtain ⟨j, -, rfl⟩ := List.mem_map.mp hb
    exact hfg (congrArg Prod.fst e)
theorem ws_D {x : Ctx} {σ : Mem} (h : Dis x σ) : va_D (XA x) (WS x σ) := by
  refine ⟨fun i j p q hi hj e => ?_, fun i q hq => ?_⟩
  · obtain ⟨f, k, hk, e1, rfl⟩ := ws_of hi
    obtain ⟨f', k', hk', e2, rfl⟩ := ws_of hj
    obtain ⟨rfl, rfl⟩ := h.1 f k f' k' hk hk' e
    have hi' := List.getElem?_eq_some_iff.mp e1
    have hj' := List.getElem?_eq_some_iff.mp e2
    exact (List.getElem_inj (wsKeys_nd x)).mp (hi'.2.trans hj'.2.symm)
  · obtain ⟨f, k, hk, -, rfl⟩ := ws_of hq
    exact h.2 f k hk
theorem cells_set {x : Ctx} {σ σ' : Mem} {f k q0 : Nat} {H1 : Heap} (hD : Dis x σ) (hk : k < oCnt x f) (hq : (WS x σ)[q0]? = some (adr x σ f k, el x σ f k)) {e : va_E} (h : va_P (xD x) vwCl ((WS x σ).set q0 (adr x σ f k, e)) H1) (he : el x σ' f k = e)
    (hn : ∀ f' k', ¬ (f' = f ∧ k' = k) → el x σ' f' k' = el x σ f' k') (ha : ∀ f' k', adr x σ' f' k' = adr x σ f' k') : Cells x σ' H1 := by
  intro f' k' hk'
  rw [ha]
  by_cases hc : f' = f ∧ k' = k
  · obtain ⟨rfl, rfl⟩ := hc
    rw [he]
    exact h q0 _ (List.getElem?_set_self (List.getElem?_eq_some_iff.mp hq).1)
  · rw [hn f' k' hc]
    obtain ⟨j, hj⟩ := ws_at x σ hk'
    refine h j _ ?_
    rw [List.getElem?_set_ne ?_]
    · exact hj
    · intro e0
      subst e0
      have := hq.symm.trans hj
      have h1 : adr x σ f k = adr x σ f' k' := congrArg Prod.fst (Option.some.inj this)
      obtain ⟨e1, e2⟩ := hD.1 f k f' k' hk hk' h1
      exact hc ⟨e1.symm, e2.symm⟩
theorem Dis.same {x : Ctx} {σ σ' : Mem} (h : Dis x σ) (ha : ∀ f' k', adr x σ' f' k' = adr x σ f' k') : Dis x σ' :=
  ⟨fun f k f' k' h1 h2 e => h.1 f k f' k' h1 h2 (by rw [← ha, ← ha]; exact e), fun f k hk => by rw [ha]; exact h.2 f k hk⟩
theorem Cells.kept {x : Ctx} {σ : Mem} {H H1 : Heap} (h : Cells x σ H) (hq : ∀ q, q < H.size → H1[q]? = H[q]?) : Cells x σ H1 := fun f k hk => (h f k hk).kept (hq _ (h f k hk).lt)
/-! CONTEXTS THAT GROW -/
/-- x' has all that x has -/
def Ext (x x' : Ctx) : Prop := (x'.1 = x.1 ∧ xct x' = xct x ∧ xb x' = xb x) ∧ (∀ f j, f < 30 → xen x' f j = xen x f j) ∧ (∀ f k, (f < 13 ∨ f = 14 ∨ k < oCnt x f) → xad x' f k = xad x f k) ∧ ∀ f, oCnt x f ≤ oCnt x' f
theorem Ext.rf (x : Ctx) : Ext x x := ⟨⟨rfl, rfl, rfl⟩, fun _ _ _ => rfl, fun _ _ _ => rfl, fun _ => Nat.le_refl _⟩
theorem Ext.tr {x y z : Ctx} (h1 : Ext x y) (h2 : Ext y z) : Ext x z := ⟨⟨h2.1.1.trans h1.1.1, h2.1.2.1.trans h1.1.2.1, h2.1.2.2.trans h1.1.2.2⟩, fun f j h => (h2.2.1 f j h).trans (h1.2.1 f j h), fun f k h => (h2.2.2.1 f k (h.imp id (Or.imp id fun q => Nat.lt_of_lt_of_le q (h1.2.2.2 f)))).trans (h1.2.2.1 f k h), fun f => Nat.le_trans (h1.2.2.2 f) (h2.2.2.2 f)⟩
theorem Ext.aq {x x' : Ctx} (h : Ext x x') {σ : Mem} {f k : Nat} (hk : k < oCnt x f) : adr x' σ f k = adr x σ f k := by
  unfold adr
  rw [h.2.2.1 f k (Or.inr (Or.inr hk))]
theorem Ext.eq2 {x x' : Ctx} (h : Ext x x') {σ : Mem} {f k : Nat} (hk : k < oCnt x f) : el x' σ f k = el x σ f k := by
  have a : ∀ f k, (f < 13 ∨ f = 14) → xad x' f k = xad x f k := fun f k q => h.2.2.1 f k (q.imp id Or.inl)
  have b : ∀ k, k < 2 → xad x' 13 k = xad x 13 k := fun k q => h.2.2.1 13 k (Or.inr (Or.inr (cb q)))
  have c : xct x' = xct x := h.1.2.1
  have d : xen x' 0 = xen x 0 := funext fun j => h.2.1 0 j (by decide)
  have e : ∀ j : Nat, xad x' 4 (3 + j) = xad x 4 (3 + j) := fun j => a 4 _ (by decide)
  unfold el
  split
  all_goals first
    | rfl
    | simp only [c, d, e, a _ _ (by decide : (1 : Nat) < 13 ∨ (1 : Nat) = 14), a _ _ (by decide : (0 : Nat) < 13 ∨ (0 : Nat) = 14), a _ _ (by decide : (2 : Nat) < 13 ∨ (2 : Nat) = 14), a _ _ (by decide : (3 : Nat) < 13 ∨ (3 : Nat) = 14), a _ _ (by decide : (4 : Nat) < 13 ∨ (4 : Nat) = 14), a _ _ (by decide : (5 : Nat) < 13 ∨ (5 : Nat) = 14), a _ _ (by decide : (6 : Nat) < 13 ∨ (6 : Nat) = 14), a _ _ (by decide : (7 : Nat) < 13 ∨ (7 : Nat) = 14), a _ _ (by decide : (8 : Nat) < 13 ∨ (8 : Nat) = 14), a _ _ (by decide : (9 : Nat) < 13 ∨ (9 : Nat) = 14), a _ _ (by decide : (10 : Nat) < 13 ∨ (10 : Nat) = 14), a _ _ (by decide : (11 : Nat) < 13 ∨ (11 : Nat) = 14), a _ _ (by decide : (12 : Nat) < 13 ∨ (12 : Nat) = 14), b 0 (by decide), b 1 (by decide)]
theorem Ext.cells {x x' : Ctx} (h : Ext x x') {σ : Mem} {H : Heap} (hC : Cells x' σ H) : Cells x σ H := fun f k hk => by
  have g := hC f k (Nat.lt_of_lt_of_le hk (h.2.2.2 f))
  rw [h.aq hk, h.eq2 hk] at g
  unfold xD at g ⊢
  rw [h.1.1] at g
  exact g
theorem Ext.dis {x x' : Ctx} (h : Ext x x') {σ : Mem} (hD : Dis x' σ) : Dis x σ := by
  refine ⟨fun f k f' k' h1 h2 e => hD.1 f k f' k' (Nat.lt_of_lt_of_le h1 (h.2.2.2 f)) (Nat.lt_of_lt_of_le h2 (h.2.2.2 f')) ?_, fun f k hk => ?_⟩
  · rw [h.aq h1, h.aq h2]
    exact e
  · have g := hD.2 f k (Nat.lt_of_lt_of_le hk (h.2.2.2 f))
    rw [h.aq hk] at g
    rw [← h.1.2.2]
    exact g
/-- one more builder (k = 2), one more array, one more text, its letters -/
def xSB (x : Ctx) (a : Nat) : Ctx := (x.1, (fun f k => if f = 13 ∧ k = 2 then a else xad x f k), x.2.2.1, x.2.2.2.1, fun f j => if f = 30 ∧ j = 0 then 1 else xen x f j)
def xAR (x : Ctx) (a : Nat) : Ctx := (x.1, (fun f k => if f = 19 ∧ k = xen x 30 1 then a else xad x f k), x.2.2.1, x.2.2.2.1, fun f j => if f = 30 ∧ j = 1 then xen x 30 1 + 1 else xen x f j)
def xST (x : Ctx) (a : Nat) : Ctx := (x.1, (fun f k => if f = 20 ∧ k = 0 then a else xad x f k), x.2.2.1, x.2.2.2.1, fun f j => if f = 30 ∧ j = 2 then 1 else xen x f j)
def xSY (x : Ctx) : Ctx := (x.1, xad x, x.2.2.1, x.2.2.2.1, fun f j => if f = 30 ∧ j = 2 then 0 else if f = 30 ∧ j = 3 then 1 else xen x f j)
