/-! WHOLE_START OUT OF THE LAW'S OWN SENTENCE -/
theorem sbn_forget {s t : State} {L : List Loc} {c n : Nat} (h : s.sameButNew t L c n) (hL : ∀ q ∈ L, s.heap.size ≤ q.base) : s.sameButNew t [] c n := by
  obtain ⟨h1, h2, h3, h4, h5, h6⟩ := h
  refine ⟨h1, h2, h3, h4, h5, fun a k hk => ?_⟩
  obtain ⟨k', q1, q2, q3, q4⟩ := h6 a k hk
  exact ⟨k', q1, q2, q3, fun i _ => q4 i (fun hm => absurd (hL _ hm) (Nat.not_le.mpr (Array.getElem?_eq_some_iff.mp hk).1))⟩
set_option maxHeartbeats 4000000 in
theorem whole_of (hp : ∀ (S : Scr) (hb : Nat), S.1 ≤ 260 → wL_begun S (mem0 hb) (fun s => wL_law S s (fun r _ => r = 1) (fun _ _ => False)) (fun _ _ => False)) {p : Program} {e : Env} {s : State} {m : MethodId} {below : List Frame} {meth : Method} {c : Code} (l : Launch) (hflags : l.flags = flags0) {b L : Nat} {xs : Nat → Int32} (hL : L ≤ 260) (C0 : lw_At p s m meth c b L xs) : W p l e room_1 s m #[Value.ref b] below meth c s.heap [] 0 0 (lw_Z below #[Value.ref b] s) (entryFrame m ([Value.ref b] : List Value).toArray 7) := by
  obtain ⟨hx, hcode, hret, hml, hown, hts, hX, hbl, hlk, hgv⟩ := C0
  obtain ⟨D, ct, hK⟩ := known_of hts
  obtain ⟨xe, hz, hb0, hS⟩ := stat_of hts hgv hX hbl (ncs_of hgv) (aos_of hts)
  have hl : l.stackTraces = false := by simp [Launch.stackTraces, hflags, flags0]
  obtain ⟨x, hx0⟩ : ∃ x : Ctx, x = ctx0 D ct s.heap.size xe := ⟨_, rfl⟩
  have hxb : xb x = s.heap.size := by rw [hx0]; rfl
  have hSc := hS x hxb (by rw [hx0]; rfl)
  have hN : New x := by rw [hx0]; exact ⟨hz 0, hz 1, hz 2, hz 3⟩
  have h50 : xen x 5 0 = b := by rw [hx0]; exact hb0
  have F : Fx (p, l, e, room_1, s, m, #[Value.ref b], below, meth, c, x, 7, vx_MQ below (fun _ _ o _ => o = .returned (some (.int 1))) (fun _ _ _ => False) #[Value.ref b] s 600390 7289640 (XA x)) cL_law "YarnMillLaw" 7 := ⟨hx, hcode, hml, hown, good_of hts, by rw [hx0]; exact hK _ _, hSc.2, by rw [hxb]; exact Nat.le_refl _, hlk, hl, rfl⟩
  have B : Bd (p, l, e, room_1, s, m, #[Value.ref b], below, meth, c, x, 7, vx_MQ below (fun _ _ o _ => o = .returned (some (.int 1))) (fun _ _ _ => False) #[Value.ref b] s 600390 7289640 (XA x)) cL_law "YarnMillLaw" 7 (some .boolean) 2048 94400 600390 7289640 (RI (fun r _ => r = 1)) (fun _ _ => False) :=
    ⟨F, rfl, hret, ⟨_, _, rfl, fun v σ t hq _ _ _ => by obtain ⟨i, rfl, rfl⟩ := hq; rfl, fun _ _ _ q => q.elim⟩, Or.inr (fun _ _ q => q)⟩
  have go : GoC (p, l, e, room_1, s, m, #[Value.ref b], below, meth, c, x, 7, vx_MQ below (fun _ _ o _ => o = .returned (some (.int 1))) (fun _ _ _ => False) #[Value.ref b] s 600390 7289640 (XA x)) 0 0 [] 0 [some (.ref (xen x 5 0)), none, none, none, none, none, none] [] :=
    c_aload_n (np := 1) F dL_law_0 rfl rfl (g_callBegun (np := 4) B hxb.symm (aos_of hts) (oL_begun hl D ct s.heap.size xe hx0 hN (L, xs) hSc.1 _ (hp (L, xs) s.heap.size hL)) (Nat.le_of_ble_eq_true rfl) (Nat.le_of_ble_eq_true rfl) (Nat.le_of_ble_eq_true rfl) (Nat.le_of_ble_eq_true rfl) dL_law_1 rfl (fun σ hq => oL_law (cells := 320) (slots := 5977) B hSc.1 ⟨hN.1, hN.2.2.1, hN.2.2.2⟩ hN.2.1.symm (Nat.le_of_ble_eq_true rfl) (Nat.le_of_ble_eq_true rfl) σ hq))
  rw [lg_entry_eq]
  have w := go s.heap [] _ ⟨by show s.heap.size = xb x + 0; rw [hxb]; rfl, fun k q h => by cases h⟩ va_S.rf (Lh.of (lv_entry [Value.ref b] (Nat.le_of_ble_eq_true rfl)) (by rw [h50]; rfl))
  intro T hT X
  obtain ⟨t, a1, o, b1, b2, b3⟩ := w T hT X
  refine ⟨t, a1, o, b1, b2, ?_⟩
  rcases b3 with ⟨hq, L9, hf, hfree⟩ | ⟨q, rfl, E, ce, L9, hX9, -⟩
  · exact ⟨hq, hf.1, hf.2.1, sbn_forget hf.2.2 (fun z hz9 => by have := hfree z hz9; rw [← hxb]; exact this)⟩
  · exact hX9.elim
