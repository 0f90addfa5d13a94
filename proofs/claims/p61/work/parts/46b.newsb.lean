theorem b_1297 : Cond.classLink "YarnMillLaw" 149 "java/lang/StringBuilder" ∈ lw_good := bB 1297 (by decide +kernel) (by decide +kernel)
theorem b_1298 : Cond.methodLink "YarnMillLaw" 151 yJ4_init_da8c8 ∈ lw_good := bB 1298 (by decide +kernel) (by decide +kernel)
/-! A NEW BUILDER, MADE IN A RUN -/
section NSB
variable {K : Fr} {cells slots : Nat} {σ : Mem} {cc : ByteArray} {nL pc fr lo mc ms : Nat} {ret : Option FieldType} {Qm : Option Value → Mem → Prop} {Em : String → Mem → Prop} {lv : List (Option Value)} {st : List Value}
/-- the context of the new cells alone -/
def xTop (x : Ctx) (b : Nat) : Ctx := (x.1, x.2.1, x.2.2.1, b, x.2.2.2.2)
set_option maxHeartbeats 4000000 in
theorem g_newSB (B : Bd K cc "YarnMillLaw" nL ret fr lo mc ms Qm Em) (h0 : xen (fX K) 30 0 = 0) (lvf : Ctx → List (Option Value)) (stf : Ctx → List Value) (hlv : ∀ x a, lvf (xSB x a) = lvf x) (hst : ∀ x a, stf (xSB x a) = stf x) (hst8 : ((stf (fX K)).map fun v => v.category).sum ≤ 7)
    (d0 : decode cc pc = .ok (.new 149, 3)) (d3 : decode cc (pc + 3) = .ok (.dup, 1)) (d4 : decode cc (pc + 4) = .ok (.invokespecial 151, 3)) (hfr : 3 ≤ fr) (hlo : 80 ≤ lo) (hc : cells + 2 ≤ mc) (hs : slots + 20 ≤ ms) {np : Nat} (hp : pc + 7 = np)
    (kk : ∀ a : Nat, Ext (fX K) (xSB (fX K) a) → ∀ σ' : Mem, NewB σ σ' → Go (setX K (xSB (fX K) a)) (cells + 2) (slots + 20) σ' np (lvf (xSB (fX K) a)) (.ref a :: stf (xSB (fX K) a))) : Go K cells slots σ pc (lvf (fX K)) (stf (fX K)) := by
  subst hp
  intro H locs ls hC hD hS hL
  have F := B.1
  have hKn := F.k.1 1 (RJ4, TJ4, 4) rfl
  have hR : fR K = ({ frames := fr, cells := mc, slots := ms, locals := lo } : Room) := B.2.1
  refine W.newcK F.x F.b F.o (F.w _ b_1297) (F.w _ b_80) (F.w _ b_38) rfl d0 (by rw [hR]; show cells + 1 ≤ mc; omega) (by rw [hR]; show slots + 4 ≤ ms; omega) hKn.2.1 rfl fun H1 kC hkC e1 z1 o1 => ?_
  refine lv_dup F.x F.b d3 rfl ?_
  have hbH : xb (fX K) ≤ H.size := Nat.le_trans F.h hS.1
  have hfx : CallFix (fP K) (fM K) (fC K) cc nL (fS K) (fA K) lw_good "YarnMillLaw" := ⟨F.x, F.b, F.ml.trans F.n, F.o, F.w⟩
  have hs1 : ∀ q : Nat, q < (fS K).heap.size → ¬ XA (fX K) q → H1[q]? = (fS K).heap[q]? := fun q h1 h2 => (o1 q (Nat.lt_of_lt_of_le h1 hS.1)).trans (hS.2.1 q h1 h2)
  have pre : ∀ U : State, U.heap = H1 → (fS K).WarmedH U.vm → RWd (xTop (fX K) H.size) ([] ++ [.inr (1, [.null, .int 0, .int 0, .int 0])]) U := by
    intro U hU hW
    refine ⟨⟨by rw [hU, z1]; rfl, ?_⟩, F.k.moved hW.alike, ?_, F.mo.2.1.moved hW.alike⟩
    · rw [hU]
      intro k x hx
      match k, hx with
      | 0, hx =>
        cases hx
        exact ⟨_, rfl, (u_born tyJ4 F.w inJ4 hKn hkC e1 tyJ4_ok).to (fun j hj => by match j, hj with | 0, _ => rfl | 1, _ => rfl | 2, _ => rfl | 3, _ => rfl | _ + 4, hj => exact absurd hj (by omega))⟩
      | k + 1, hx => cases hx
    · rw [hU]
      exact Stat.ctx (x := fX K) (x' := xTop (fX K) H.size) (fun _ _ _ => rfl) (fun a q z => q (Nat.le_trans hbH z)) ((F.s.moved hW).kept hs1)
  have run : va_Run (fP K) (fL K) (fE K) (fR K) (fS K) (fM K) (fA K) (fB K) (fMe K) (fC K) H1 locs (cells + 1) (slots + 4) 1 16 (F0 (fM K) (pc + 4) ls (.ref H.size :: .ref H.size :: stf (fX K))) (.ref H.size :: stf (fX K)) (QR (xTop (fX K) H.size) ([] ++ mkSb (xTop (fX K) H.size) 0) ([.ref H.size] : List Value).toArray) (XA (xTop (fX K) H.size)) :=
    va_runI (As := []) hfx (kJ4_init_da8c8 (l := fL K) (x := xTop (fX K) H.size) F.tr [] 0 rfl) (cwI 0 F.w (good_c b_83) rfl rfl rfl (F.w _ b_38) (F.w _ b_1298) (F.w _ b_82) rfl (by decide +kernel) ⟨by rw [hR]; exact hfr, by rw [hR]; show 8 + (1 + 11) + 51 ≤ lo; omega⟩)
      ⟨fun a U g mk q => ⟨q.1, q.2.moved (State.WarmedH.refl U) rfl⟩, fun U hU hW => ⟨rfl, pre U hU hW⟩⟩ rfl rfl (hL.1.trans F.n) rfl (lv_room (by have e1 : (Value.ref H.size).category = 1 := rfl; simp only [List.map_cons, List.sum_cons]; omega)) d4 (by rw [hR]; exact ⟨hc, by show slots + 4 + 16 ≤ ms; omega⟩)
  intro T hT X
  obtain ⟨v, st₀, t, T', L, h9, X', hfl, e9, e10, ⟨⟨hv, hR1⟩, hz⟩, hgo⟩ := run T hT X
  cases hv
  have hkeep : ∀ q : Nat, q < H.size → T'.heap[q]? = H[q]? := by
    intro q hq
    rw [e9]
    have h3 := hz.2 q (by rw [h9, z1]; omega) (fun z => absurd z (Nat.not_le.mpr hq))
    rw [h3, h9]
    exact o1 q hq
  have hsz : H.size ≤ T'.heap.size := by
    rw [e9]
    have := hz.1
    rw [h9, z1] at this
    omega
  have hS' : va_S (XA (fX K)) (fS K).heap T'.heap (locs ++ L) := by
    refine ⟨Nat.le_trans hS.1 hsz, fun q h1 h2 => (hkeep q (Nat.lt_of_lt_of_le h1 hS.1)).trans (hS.2.1 q h1 h2), fun z hzz => ?_⟩
    rcases List.mem_append.mp hzz with h | h
    · exact hS.2.2 z h
    · exact Nat.le_trans hbH (hfl z h)
  have g1 : va_at (xD (fX K)) vwCl (H.size, .inr (1, [.ref (H.size + 1), .int 0, .int 0, .int 0])) T'.heap := by
    rw [e9]
    exact hR1.2 0 _ rfl
  have g2 : va_at (xD (fX K)) vwCl (H.size + 1, .inl (xct (fX K) 3, 16, .inl (fun _ => 0))) T'.heap := by
    rw [e9]
    exact hR1.2 1 _ rfl
  have hgo2 := kk H.size (ext_SB h0 _) _ (newB_ok σ (H.size + 1))
  rw [hlv, hst] at hgo2
  obtain ⟨t2, a1, b1⟩ := hgo2 T'.heap (locs ++ L) ls (cells_SB h0 hC hkeep g1 g2) (dis_SB h0 hC hD hbH) hS' hL T' rfl X'
  exact ⟨t2, hgo t2 a1, b1⟩
end NSB
