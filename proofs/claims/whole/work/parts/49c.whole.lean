/-! WHOLE_START OUT OF AN INVARIANT OF THE LAW'S LOOP -/
set_option maxHeartbeats 4000000 in
theorem whole_of (Inv : Nat → Mem → Prop) (h0 : ∀ hb : Nat, Inv 0 (mem0 hb)) (hstep : ∀ (j : Nat) (c a1 a2 a3 : Int32) (σ : Mem), j < 512 → Inv j σ → wStep c a1 a2 a3 σ (Inv (j + 1))) {p : Program} {e : Env} {s : State} {m : MethodId} {below : List Frame} {meth : Method} {c : Code} (l : Launch) (hflags : l.flags = flags0) {b L : Nat} {xs : Nat → Int32} (hL : L ≤ 2048) (C0 : lw_At p s m meth c b L xs) : W p l e room_1 s m #[Value.ref b] below meth c s.heap [] 0 0 (lw_Z below #[Value.ref b] s) (entryFrame m ([Value.ref b] : List Value).toArray 9) := by
  obtain ⟨hx, hcode, hret, hml, hown, hts, hX, hbl, hlk, hgv⟩ := C0
  obtain ⟨D, ct, hK⟩ := known_of hts
  obtain ⟨xe, hS⟩ := stat_of hts hgv
  have hl : l.stackTraces = false := by simp [Launch.stackTraces, hflags, flags0]
  have F : Fx (p, l, e, room_1, s, m, #[Value.ref b], below, meth, c, ctx0 D ct s.heap.size xe, 9, lw_Z below #[Value.ref b] s) cL_law "YarnMillLaw" 9 := ⟨hx, hcode, hml, hown, good_of hts, hK _ _, hS _ rfl rfl, Nat.le_refl _, hlk, hl, rfl⟩
  have B : BL (p, l, e, room_1, s, m, #[Value.ref b], below, meth, c, ctx0 D ct s.heap.size xe, 9, lw_Z below #[Value.ref b] s) b L xs := ⟨F, rfl, hX, hbl, Nat.not_le.mpr hbl, ncs_of hgv⟩
  have go := o_loop B hL Inv hstep (fun σ iv => g_iconst (v := 1) (np := 2691) F dL_law_2690 (by decide) rfl (fun H locs ls hC hD hS2 hL2 => va_forget (fun q hq => hS2.2.2 q hq) (lw_ret (d0 := s.drawn) (Drawn.sameBut.refl s.drawn lw_cs) hx hcode hret hlk dL_law_2691))) 512 0 289 7152 (mem0 s.heap.size) rfl (by decide) (by decide) (h0 _)
  have w := law_walk F (aos_of hts) rfl (fun H locs ls hC hS2 hL2 => go H locs ls (cells0 D ct s.heap.size xe hC) (dis0 D ct s.heap.size xe) hS2 hL2)
  rw [lg_entry_eq]
  exact w s.heap [] _ ⟨rfl, fun k q h => by cases h⟩ va_S.rf (Lh.of (lv_entry [Value.ref b] (Nat.le_of_ble_eq_true rfl)) rfl)
