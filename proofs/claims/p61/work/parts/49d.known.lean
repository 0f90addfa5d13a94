/-! WHAT THE TABLES SAY OF THE CLASSES AT THE START -/
set_option maxRecDepth 100000 in
set_option maxHeartbeats 0 in
theorem kn_in : ∀ q ∈ vwCl, ∀ w ∈ u_ws q.1 q.2.1 q.2.2, w ∈ lw_tbl := by decide +kernel
set_option maxRecDepth 100000 in
set_option maxHeartbeats 0 in
theorem kn_i : ∀ q ∈ vwCl, Cond.instantiable q.1 q.2.2 ∈ lw_tbl := by decide +kernel
set_option maxRecDepth 100000 in
set_option maxHeartbeats 0 in
theorem kn_a : Cond.arrayClass .int ∈ lw_tbl ∧ Cond.arrayClass .byte ∈ lw_tbl := by decide +kernel
theorem kn_arr {s : State} {args : Array Value} {ty : FieldType} (h : (Cond.arrayClass ty).before args s = true) : ∃ c, ArrOfT s c ty ∧ s.vm.findClass ("[" ++ ty.toString) = some c := by
  obtain ⟨c, k, comp, h1, h2, h3⟩ := Cond.arrayClass_spec h
  exact ⟨c, fun n z => ⟨fun _ h => (by cases h), k, h2, comp, h3⟩, h1⟩
theorem kn_obj {s : State} {args : Array Value} {n : String} (h : (Cond.arrayOver (.object n)).before args s = true) : ∃ c, ArrOfT s c (.object n) ∧ va_RA s c (.object n) := by
  obtain ⟨comp, c, k, h1, -, h3, h4, h5⟩ := Cond.arrayOver_spec h
  exact ⟨c, fun n z => ⟨fun _ h => (by cases h), k, h3, comp, h4⟩, k, comp, h3, h4, h1, h5⟩
theorem known_of {s : State} {args : Array Value} (hts : ∀ w ∈ lw_tbl, w.before args s = true) : ∃ (D : va_G) (ct : Nat → ClassId), ∀ (hb : Nat) (xe : Nat → Nat → Nat), va_K (xD (ctx0 D ct hb xe)) vwCl (xtys (ctx0 D ct hb xe)) s := by
  have hg : ∀ c : Nat, ∃ p : ClassId × (Nat → Nat), ∀ q : vw_C, vwCl[c]? = some q → u_Kn s q.1 q.2.1 q.2.2 p.1 p.2 := by
    intro c
    cases hq : vwCl[c]? with
    | none => exact ⟨(0, fun _ => 0), fun q h => by cases h⟩
    | some q =>
      have hm := List.mem_of_getElem? hq
      obtain ⟨cC, iS, h⟩ := u_known hts (kn_in q hm) (hts _ (kn_i q hm))
      exact ⟨(cC, iS), fun q' h' => by cases h'; exact h⟩
  obtain ⟨g, hg⟩ := Classical.axiomOfChoice hg
  obtain ⟨a0, p0, q0⟩ := kn_arr (hts _ kn_a.1)
  obtain ⟨a3, p3, q3⟩ := kn_arr (hts _ kn_a.2)
  obtain ⟨a4, p4, q4⟩ := kn_obj (hts _ tb_ao.1)
  obtain ⟨a5, p5, q5⟩ := kn_obj (hts _ tb_ao.2)
  refine ⟨(fun c => (g c).1, fun c => (g c).2), fun k => [a0, a0, a0, a3, a4, a5].getD k 0, fun hb xe => ⟨fun c q h => hg c q h, fun k q hk => ?_⟩⟩
  match k, hk with
  | 0, hk => cases hk; exact ⟨p0, q0⟩
  | 1, hk => cases hk; exact ⟨p0, q0⟩
  | 2, hk => cases hk; exact ⟨p0, q0⟩
  | 3, hk => cases hk; exact ⟨p3, q3⟩
  | 4, hk => cases hk; exact ⟨p4, q4⟩
  | 5, hk => cases hk; exact ⟨p5, q5⟩
