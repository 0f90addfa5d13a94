/-! CONTEXTS THAT GROW IN A RUN: a frame goes on over a larger context -/
theorem oCnt_ge {x : Ctx} {f : Nat} (h : 22 ≤ f) : oCnt x f = 0 := by
  unfold oCnt
  rw [List.getD_eq_getElem?_getD, List.getElem?_eq_none (by simpa using h)]
  rfl
/-- the counts, but for those that grow -/
theorem cnt_same {x y : Ctx} {f : Nat} (h13 : f = 13 ∨ f = 16 → xen y 30 0 = xen x 30 0) (h19 : f = 19 → xen y 30 1 = xen x 30 1) (h20 : f = 20 → xen y 30 2 + xen y 30 3 = xen x 30 2 + xen x 30 3) (h21 : f = 21 → xen y 30 3 = xen x 30 3) : oCnt y f = oCnt x f := by
  rcases Nat.lt_or_ge f 22 with g | g
  · match f, g with
    | 0, _ => rfl
    | 1, _ => rfl
    | 2, _ => rfl
    | 3, _ => rfl
    | 4, _ => rfl
    | 5, _ => rfl
    | 6, _ => rfl
    | 7, _ => rfl
    | 8, _ => rfl
    | 9, _ => rfl
    | 10, _ => rfl
    | 11, _ => rfl
    | 12, _ => rfl
    | 13, _ => show 2 + xen y 30 0 = 2 + xen x 30 0; rw [h13 (Or.inl rfl)]
    | 14, _ => rfl
    | 15, _ => rfl
    | 16, _ => show 2 + xen y 30 0 = 2 + xen x 30 0; rw [h13 (Or.inr rfl)]
    | 17, _ => rfl
    | 18, _ => rfl
    | 19, _ => exact h19 rfl
    | 20, _ => exact h20 rfl
    | 21, _ => exact h21 rfl
    | n + 22, g => exact absurd g (by omega)
  · rw [oCnt_ge g, oCnt_ge g]
theorem XA.ext {x x' : Ctx} (h : Ext x x') : XA x' = XA x := by
  unfold XA
  rw [h.1.2.2]
theorem scr_ext {x x' : Ctx} (h : Ext x x') : scr x' = scr x := by
  have e : ∀ f, f < 30 → xen x' f = xen x f := fun f hf => funext fun j => h.2.1 f j hf
  unfold scr
  rw [e 5 (by decide), e 6 (by decide)]
def setX (K : Fr) (x : Ctx) : Fr := (fP K, fL K, fE K, fR K, fS K, fM K, fA K, fB K, fMe K, fC K, x, fN K, fQ K)
theorem Fx.set {K : Fr} {cc : ByteArray} {own : String} {nL : Nat} (F : Fx K cc own nL) {x' : Ctx} (h : Ext (fX K) x') : Fx (setX K x') cc own nL := by
  refine ⟨F.x, F.b, F.ml, F.o, F.w, ?_, ?_, ?_, F.lk, F.tr, F.n⟩
  · show va_K (xD x') vwCl (xtys x') (fS K)
    have e1 : xD x' = xD (fX K) := h.1.1
    have e2 : xtys x' = xtys (fX K) := by
      unfold xtys
      rw [h.1.2.1]
    rw [e1, e2]
    exact F.k
  · exact F.s.ctx h.2.1 (fun a q => by show ¬ XA x' a; rw [XA.ext h]; exact q)
  · show xb x' ≤ (fS K).heap.size
    rw [h.1.2.2]
    exact F.h
theorem Bd.set {K : Fr} {cc : ByteArray} {own : String} {nL : Nat} {ret : Option FieldType} {fr lo mc ms : Nat} {Qm Qm' : Option Value → Mem → Prop} {Em : String → Mem → Prop} (B : Bd K cc own nL ret fr lo mc ms Qm Em) {x' : Ctx} (h : Ext (fX K) x') (hq : ∀ (v : Option Value) (σ : Mem), Qm' v σ → Qm v σ) : Bd (setX K x') cc own nL ret fr lo mc ms Qm' Em := by
  obtain ⟨QN9, QX9, eQ, hN, hX⟩ := B.2.2.2.1
  refine ⟨B.1.set h, B.2.1, B.2.2.1, ⟨QN9, QX9, ?_, fun v σ t q hC hD hF => hN v σ t (hq v σ q) (h.cells hC) (h.dis hD) ?_, fun E σ t q hC hD hF => hX E σ t q (h.cells hC) (h.dis hD) ?_⟩, B.2.2.2.2⟩
  · show fQ K = vx_MQ (fB K) QN9 QX9 (fA K) (fS K) mc ms (XA x')
    rw [XA.ext h]
    exact eQ
  · rw [← XA.ext h]
    exact hF
  · rw [← XA.ext h]
    exact hF
/-! a new array of ints -/
def NewA (σ σ' : Mem) (k : Nat) : Prop := (∀ f k' s : Nat, ¬ (f = 19 ∧ k' = k) → rd σ' f k' s = rd σ f k' s) ∧ (∀ s : Nat, rd σ' 19 k s = 0) ∧ σ'.2 = σ.2
def newA (σ : Mem) (k : Nat) : Mem := (fun f k' s => if f = 19 ∧ k' = k then 0 else σ.1 f k' s, σ.2)
theorem newA_ok (σ : Mem) (k : Nat) : NewA σ (newA σ k) k := ⟨fun f k' s h => if_neg h, fun s => if_pos ⟨rfl, rfl⟩, rfl⟩
theorem ext_AR (x : Ctx) (a : Nat) : Ext x (xAR x a) := by
  refine ⟨⟨rfl, rfl, rfl⟩, fun f j hf => ?_, fun f k hk => ?_, fun f => ?_⟩
  · show (if f = 30 ∧ j = 1 then xen x 30 1 + 1 else xen x f j) = _
    rw [if_neg (by omega)]
  · show (if f = 19 ∧ k = xen x 30 1 then a else xad x f k) = _
    rw [if_neg]
    rintro ⟨rfl, rfl⟩
    have : oCnt x 19 = xen x 30 1 := rfl
    omega
  · by_cases e : f = 19
    · subst e
      exact Nat.le_succ _
    · exact Nat.le_of_eq (cnt_same (x := x) (y := xAR x a) (fun _ => rfl) (fun q => absurd q e) (fun _ => rfl) (fun _ => rfl)).symm
theorem el_newA {x : Ctx} {σ : Mem} {k f k' : Nat} (h : ¬ (f = 19 ∧ k' = k)) : el x (newA σ k) f k' = el x σ f k' := el_congr (fun s => if_neg h) rfl
section KX
variable {K : Fr} {cells slots : Nat} {σ : Mem} {cc : ByteArray} {own : String} {nL pc fr lo mc ms : Nat} {ret : Option FieldType} {Qm : Option Value → Mem → Prop} {Em : String → Mem → Prop} {lv : List (Option Value)} {st : List Value}
/-- newarray int: the context grows; lvf, stf: what is known of locals and stack, as the context has it -/
theorem g_newAR (F : Fx K cc own nL) {k : Nat} (hk : k = xen (fX K) 30 1) (lvf : Ctx → List (Option Value)) (stf : Ctx → List Value) (hlv : ∀ x a, lvf (xAR x a) = lvf x) (hst : ∀ x a, stf (xAR x a) = stf x) (harr : Cond.arrayClass .int ∈ lw_good)
    (hcells : cells + 1 ≤ (fR K).cells) (hslots : slots + 110 ≤ (fR K).slots) (hdg : decode cc pc = .ok (.newarray .int, 2)) {np : Nat} (hp : pc + 2 = np)
    (kk : ∀ a : Nat, Ext (fX K) (xAR (fX K) a) → k < oCnt (xAR (fX K) a) 19 → xad (xAR (fX K) a) 19 k = a → ∀ σ' : Mem, NewA σ σ' k → Go (setX K (xAR (fX K) a)) (cells + 1) (slots + 110) σ' np (lvf (xAR (fX K) a)) (.ref a :: stf (xAR (fX K) a))) : Go K cells slots σ pc (lvf (fX K)) (.int 110 :: stf (fX K)) := by
  subst hp
  subst hk
  intro H locs ls hC hD hS hL
  refine va_newa (atype := .int) F.x F.b (F.w _ harr) (ty := .int) rfl F.k (ws_P hC) (ws_D hD) hS (fun z hz => Nat.le_trans F.h hz) (n := 110) (N' := 110) (a0 := (110, .inl (fun _ => 0))) (fun _ => rfl) (by decide) (by decide) (by decide) hcells hslots hdg (fun b cA H1 hK1 hP1 hD1 hS1 => ?_)
  have hcA : cA = xct (fX K) 0 := by
    have a1 : va_RA (fS K) cA .int := (hK1.2 6 (cA, .int) rfl).2
    have a2 : va_RA (fS K) (xct (fX K) 0) .int := (hK1.2 0 (xct (fX K) 0, .int) rfl).2
    exact Option.some.inj (a1.symm.trans a2)
  subst hcA
  have hE := ext_AR (fX K) b
  have hw : (WS (fX K) σ ++ [(b, .inl (xct (fX K) 0, (110, .inl (fun _ => 0))))])[(WS (fX K) σ).length]? = some (b, .inl (xct (fX K) 0, 110, .inl (fun _ => 0))) := by
    rw [List.getElem?_append_right (Nat.le_refl _), Nat.sub_self]
    rfl
  have ha : xad (xAR (fX K) b) 19 (xen (fX K) 30 1) = b := if_pos ⟨rfl, rfl⟩
  have hcnt : ∀ f k' : Nat, k' < oCnt (xAR (fX K) b) f → ¬ (f = 19 ∧ k' = xen (fX K) 30 1) → k' < oCnt (fX K) f := by
    intro f k' h1 h2
    by_cases e : f = 19
    · subst e
      have e1 : oCnt (xAR (fX K) b) 19 = xen (fX K) 30 1 + 1 := rfl
      have e2 : oCnt (fX K) 19 = xen (fX K) 30 1 := rfl
      omega
    · rw [← cnt_same (x := fX K) (y := xAR (fX K) b) (fun _ => rfl) (fun q => absurd q e) (fun _ => rfl) (fun _ => rfl)]
      exact h1
  have hfr : ∀ f k' : Nat, k' < oCnt (fX K) f → adr (fX K) σ f k' ≠ b := by
    intro f k' h1 e
    obtain ⟨j, hj⟩ := ws_at (fX K) σ h1
    have hjl := (List.getElem?_eq_some_iff.mp hj).1
    have := hD1.1 j (WS (fX K) σ).length _ _ (by rw [List.getElem?_append_left hjl]; exact hj) hw e
    omega
  have hbb : xb (fX K) ≤ b := hD1.2 _ _ hw
  have had : ∀ f k' : Nat, k' < oCnt (fX K) f → adr (xAR (fX K) b) (newA σ (xen (fX K) 30 1)) f k' = adr (fX K) σ f k' := fun f k' h1 => hE.aq h1
  have hadn : adr (xAR (fX K) b) (newA σ (xen (fX K) 30 1)) 19 (xen (fX K) 30 1) = b := ha
  have hC9 : Cells (xAR (fX K) b) (newA σ (xen (fX K) 30 1)) H1 := by
    intro f k' hk'
    by_cases e : f = 19 ∧ k' = xen (fX K) 30 1
    · obtain ⟨rfl, rfl⟩ := e
      rw [hadn]
      have g := hP1 _ _ hw
      have e2 : (fun j => rd (newA σ (xen (fX K) 30 1)) 19 (xen (fX K) 30 1) j) = fun _ => (0 : Int32) := funext fun j => if_pos ⟨rfl, rfl⟩
      show va_at _ _ (b, .inl (xct (fX K) 0, 110, .inl (fun j => rd (newA σ (xen (fX K) 30 1)) 19 (xen (fX K) 30 1) j))) H1
      rw [e2]
      exact g
    · have h1 := hcnt f k' hk' e
      rw [had f k' h1, hE.eq2 h1, el_newA e]
      obtain ⟨j, hj⟩ := ws_at (fX K) σ h1
      exact hP1 j _ (by rw [List.getElem?_append_left (List.getElem?_eq_some_iff.mp hj).1]; exact hj)
  have hD9 : Dis (xAR (fX K) b) (newA σ (xen (fX K) 30 1)) := by
    refine ⟨fun f k1 f' k2 h1 h2 e => ?_, fun f k1 h1 => ?_⟩
    · by_cases a1 : f = 19 ∧ k1 = xen (fX K) 30 1 <;> by_cases a2 : f' = 19 ∧ k2 = xen (fX K) 30 1
      · exact ⟨a1.1.trans a2.1.symm, a1.2.trans a2.2.symm⟩
      · rw [a1.1, a1.2, hadn, had f' k2 (hcnt f' k2 h2 a2)] at e
        exact absurd e.symm (hfr f' k2 (hcnt f' k2 h2 a2))
      · rw [a2.1, a2.2, hadn, had f k1 (hcnt f k1 h1 a1)] at e
        exact absurd e (hfr f k1 (hcnt f k1 h1 a1))
      · rw [had f k1 (hcnt f k1 h1 a1), had f' k2 (hcnt f' k2 h2 a2)] at e
        exact hD.1 f k1 f' k2 (hcnt f k1 h1 a1) (hcnt f' k2 h2 a2) e
    · by_cases a1 : f = 19 ∧ k1 = xen (fX K) 30 1
      · rw [a1.1, a1.2, hadn]
        exact hbb
      · rw [had f k1 (hcnt f k1 h1 a1)]
        exact hD.2 f k1 (hcnt f k1 h1 a1)
  have hgo := kk b hE (Nat.lt_succ_self _) ha _ (newA_ok σ _)
  rw [hlv, hst] at hgo
  exact hgo H1 locs ls hC9 hD9 hS1 hL
end KX
/-! a new builder -/
def NewB (σ σ' : Mem) : Prop := (∀ f k s : Nat, ¬ ((f = 13 ∨ f = 16) ∧ k = 2) → rd σ' f k s = rd σ f k s) ∧ (∀ s : Nat, rd σ' 13 2 s = 0) ∧ (∀ s : Nat, rd σ' 16 2 s = 0) ∧ σ'.2.2.1 2 = 16 ∧ (∀ k : Nat, k ≠ 2 → σ'.2.2.1 k = σ.2.2.1 k)
def newB (σ : Mem) (b : Nat) : Mem := (fun f k s => if (f = 13 ∨ f = 16) ∧ k = 2 then 0 else σ.1 f k s, fun j => if j = 2 then b else σ.2.1 j, fun j => if j = 2 then 16 else σ.2.2.1 j, σ.2.2.2)
theorem newB_ok (σ : Mem) (b : Nat) : NewB σ (newB σ b) := ⟨fun f k s h => if_neg h, fun _ => rfl, fun _ => rfl, rfl, fun k h => if_neg h⟩
theorem ext_SB {x : Ctx} (h0 : xen x 30 0 = 0) (a : Nat) : Ext x (xSB x a) := by
  refine ⟨⟨rfl, rfl, rfl⟩, fun f j hf => ?_, fun f k hk => ?_, fun f => ?_⟩
  · show (if f = 30 ∧ j = 0 then 1 else xen x f j) = _
    rw [if_neg (by omega)]
  · show (if f = 13 ∧ k = 2 then a else xad x f k) = _
    rw [if_neg]
    rintro ⟨rfl, rfl⟩
    have : oCnt x 13 = 2 + xen x 30 0 := rfl
    omega
  · by_cases e : f = 13 ∨ f = 16
    · rcases e with rfl | rfl
      · show 2 + xen x 30 0 ≤ 2 + 1
        omega
      · show 2 + xen x 30 0 ≤ 2 + 1
        omega
    · exact Nat.le_of_eq (cnt_same (x := x) (y := xSB x a) (fun q => absurd q e) (fun _ => rfl) (fun _ => rfl) (fun _ => rfl)).symm
theorem el_newB {x : Ctx} {σ : Mem} {b f k : Nat} (h : ¬ ((f = 13 ∨ f = 16) ∧ k = 2)) : el x (newB σ b) f k = el x σ f k := by
  have hr : ∀ s, rd (newB σ b) f k s = rd σ f k s := fun s => if_neg h
  unfold el
  split
  all_goals (try simp only [hr])
  all_goals first
    | rfl
    | (show (Sum.inr (1, [Value.ref (if k = 2 then b else σ.2.1 k), _, _, _]) : va_E) = _; rw [if_neg (fun q => h ⟨Or.inl rfl, q⟩)])
    | (show (Sum.inl (xct x 3, (if k = 2 then 16 else σ.2.2.1 k), _) : va_E) = _; rw [if_neg (fun q => h ⟨Or.inr rfl, q⟩)])
theorem cnt_SB {x : Ctx} (h0 : xen x 30 0 = 0) {a f k : Nat} (h1 : k < oCnt (xSB x a) f) (h2 : ¬ ((f = 13 ∨ f = 16) ∧ k = 2)) : k < oCnt x f := by
  by_cases e : f = 13 ∨ f = 16
  · rcases e with rfl | rfl
    · have e1 : oCnt (xSB x a) 13 = 2 + 1 := rfl
      have e2 : oCnt x 13 = 2 + xen x 30 0 := rfl
      omega
    · have e1 : oCnt (xSB x a) 16 = 2 + 1 := rfl
      have e2 : oCnt x 16 = 2 + xen x 30 0 := rfl
      omega
  · rw [← cnt_same (x := x) (y := xSB x a) (fun q => absurd q e) (fun _ => rfl) (fun _ => rfl) (fun _ => rfl)]
    exact h1
/-- the world with one more builder, its cells being the last two -/
theorem cells_SB {x : Ctx} (h0 : xen x 30 0 = 0) {σ : Mem} {H H1 : Heap} (hC : Cells x σ H) (hk : ∀ q : Nat, q < H.size → H1[q]? = H[q]?) (g1 : va_at (xD x) vwCl (H.size, .inr (1, [.ref (H.size + 1), .int 0, .int 0, .int 0])) H1) (g2 : va_at (xD x) vwCl (H.size + 1, .inl (xct x 3, 16, .inl (fun _ => 0))) H1) : Cells (xSB x H.size) (newB σ (H.size + 1)) H1 := by
  have hE := ext_SB h0 H.size
  intro f k hk'
  by_cases e : (f = 13 ∨ f = 16) ∧ k = 2
  · obtain ⟨rfl | rfl, rfl⟩ := e
    · exact g1
    · have e2 : (fun j => rd (newB σ (H.size + 1)) 16 2 j) = fun _ => (0 : Int32) := rfl
      show va_at _ _ (H.size + 1, .inl (xct x 3, 16, .inl (fun j => rd (newB σ (H.size + 1)) 16 2 j))) H1
      rw [e2]
      exact g2
  · have h1 := cnt_SB h0 hk' e
    have had : adr (xSB x H.size) (newB σ (H.size + 1)) f k = adr x σ f k := by
      rw [hE.aq h1]
      unfold adr
      by_cases e16 : f = 16
      · rw [if_pos e16, if_pos e16]
        exact if_neg (fun q => e ⟨Or.inr e16, q⟩)
      · rw [if_neg e16, if_neg e16]
        rfl
    rw [had, hE.eq2 h1, el_newB e]
    exact (hC f k h1).kept (hk _ (hC f k h1).lt)
theorem dis_SB {x : Ctx} (h0 : xen x 30 0 = 0) {σ : Mem} {H : Heap} (hC : Cells x σ H) (hD : Dis x σ) (hb : xb x ≤ H.size) : Dis (xSB x H.size) (newB σ (H.size + 1)) := by
  have hE := ext_SB h0 H.size
  have had : ∀ f k : Nat, k < oCnt (xSB x H.size) f → adr (xSB x H.size) (newB σ (H.size + 1)) f k = if f = 13 ∧ k = 2 then H.size else if f = 16 ∧ k = 2 then H.size + 1 else adr x σ f k := by
    intro f k hk
    by_cases a1 : f = 13 ∧ k = 2
    · obtain ⟨rfl, rfl⟩ := a1
      rfl
    · rw [if_neg a1]
      by_cases a2 : f = 16 ∧ k = 2
      · obtain ⟨rfl, rfl⟩ := a2
        rfl
      · rw [if_neg a2]
        have e : ¬ ((f = 13 ∨ f = 16) ∧ k = 2) := by
          rintro ⟨rfl | rfl, q⟩
          · exact a1 ⟨rfl, q⟩
          · exact a2 ⟨rfl, q⟩
        rw [hE.aq (cnt_SB h0 hk e)]
        unfold adr
        by_cases e16 : f = 16
        · rw [if_pos e16, if_pos e16]
          exact if_neg (fun q => a2 ⟨e16, q⟩)
        · rw [if_neg e16, if_neg e16]
          rfl
  have hlt : ∀ f k : Nat, k < oCnt (xSB x H.size) f → ¬ (f = 13 ∧ k = 2) → ¬ (f = 16 ∧ k = 2) → k < oCnt x f ∧ adr x σ f k < H.size := by
    intro f k hk a1 a2
    have e : ¬ ((f = 13 ∨ f = 16) ∧ k = 2) := by
      rintro ⟨rfl | rfl, q⟩
      · exact a1 ⟨rfl, q⟩
      · exact a2 ⟨rfl, q⟩
    have h1 := cnt_SB h0 hk e
    exact ⟨h1, (hC f k h1).lt⟩
  refine ⟨fun f k f' k' h1 h2 e => ?_, fun f k h1 => ?_⟩
  · rw [had f k h1, had f' k' h2] at e
    by_cases a1 : f = 13 ∧ k = 2 <;> by_cases a2 : f' = 13 ∧ k' = 2
    · exact ⟨a1.1.trans a2.1.symm, a1.2.trans a2.2.symm⟩
    · rw [if_pos a1, if_neg a2] at e
      by_cases b2 : f' = 16 ∧ k' = 2
      · rw [if_pos b2] at e
        omega
      · rw [if_neg b2] at e
        have := (hlt f' k' h2 a2 b2).2
        omega
    · rw [if_neg a1, if_pos a2] at e
      by_cases b1 : f = 16 ∧ k = 2
      · rw [if_pos b1] at e
        omega
      · rw [if_neg b1] at e
        have := (hlt f k h1 a1 b1).2
        omega
    · rw [if_neg a1, if_neg a2] at e
      by_cases b1 : f = 16 ∧ k = 2 <;> by_cases b2 : f' = 16 ∧ k' = 2
      · exact ⟨b1.1.trans b2.1.symm, b1.2.trans b2.2.symm⟩
      · rw [if_pos b1, if_neg b2] at e
        have := (hlt f' k' h2 a2 b2).2
        omega
      · rw [if_neg b1, if_pos b2] at e
        have := (hlt f k h1 a1 b1).2
        omega
      · rw [if_neg b1, if_neg b2] at e
        exact hD.1 f k f' k' (hlt f k h1 a1 b1).1 (hlt f' k' h2 a2 b2).1 e
  · show xb x ≤ _
    rw [had f k h1]
    split
    · exact hb
    · split
      · omega
      · rename_i a1 a2
        exact hD.2 f k (hlt f k h1 a1 a2).1
