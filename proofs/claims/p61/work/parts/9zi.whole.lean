/-! THE START, AND THE WHOLE -/
/-- the row of a new mill -/
def rw0 (s : Nat) : Int32 := if s = 0 then 1000 else if s = 3 then 1 else 0
theorem j0 (hb : Nat) : J 0 0 0 0 0 0 rw0 (mem0 hb) := by
  refine ⟨⟨by decide, by decide, by decide⟩, ?_, ?_, ?_, ⟨rfl, rfl⟩, fun k hk => by
    match k, hk with
    | 0, _ => rfl
    | 1, _ => rfl
    | 2, _ => rfl
    | 3, _ => rfl, fun m hm => by
    match m, hm with
    | 0, _ => rfl
    | 1, _ => rfl
    | 2, _ => rfl⟩
  · refine ⟨⟨by decide, by decide, by decide, rfl, rfl, rfl⟩, ⟨1, by decide, by decide, rfl⟩, ⟨0, by decide, rfl⟩, ⟨0, Nat.le_refl _, rfl⟩, ⟨0, Nat.le_refl _, rfl⟩, fun q hq => absurd hq (Nat.not_lt_zero q), fun q hq => absurd hq (Nat.not_lt_zero q), ⟨fun _ => 0, fun q hq => absurd hq (Nat.not_lt_zero q), Nat.le_refl _, ?_⟩, ?_⟩
    · show (0 : Int32) - 0 - 0 = nI 0
      decide
    · show (1000 : Int32) = 1000 - 0 + 0
      decide
  · exact ⟨⟨1000, by decide, rfl⟩, ⟨fun _ => 0, 0, Nat.le_refl _, rfl, fun q hq => absurd hq (Nat.not_lt_zero q), fun q q' _ hq => absurd hq (Nat.not_lt_zero q')⟩, ⟨fun _ => 0, 0, Nat.le_refl _, rfl, fun q hq => absurd hq (Nat.not_lt_zero q), fun q q' _ hq => absurd hq (Nat.not_lt_zero q')⟩⟩
  · exact ⟨⟨rfl, rfl, rfl, rfl, rfl, rfl, rfl, rfl, rfl, rfl, rfl⟩, fun _ _ => rfl, fun _ _ => rfl, rfl, fun q hq => absurd hq (Nat.not_lt_zero q), fun q hq => absurd hq (Nat.not_lt_zero q), fun q hq => absurd hq (Nat.not_lt_zero q)⟩
theorem bg0 (hb : Nat) : Bg 0 (mem0 hb) := ⟨⟨0, 0, 0, 0, 0, 0, rw0, Nat.le_refl _, j0 hb⟩, ⟨rfl, rfl, Nat.zero_le _, Or.inl rfl, fun i hi => absurd hi (Nat.not_lt_zero i), fun i _ => by rfl⟩, ⟨rfl, rfl, Nat.zero_le _, Or.inl rfl, fun i hi => absurd hi (Nat.not_lt_zero i), fun i _ => by rfl⟩⟩
theorem w_law {S : Scr} {Q : Int32 → Mem → Prop} {E : String → Mem → Prop} {σ : Mem} (hS : S.1 ≤ 260) (B : Bg 20 σ) (hQ : ∀ τ : Mem, Q 1 τ) : wL_law S σ Q E := by
  unfold wL_law
  refine w_in (i := 58) (n := 80) hS rfl (by decide) rfl (by decide) (by decide) (fun r1 h1 v2 hv2 => ?_)
  refine w_in (i := 59) (n := 45) hS rfl (by decide) rfl (by decide) (by decide) (fun r4 h4 v3 hv3 => ?_)
  have e2 : 1 ≤ 1 + r1 ∧ 1 + r1 ≤ 500 ∧ v2 = nI (1 + r1) := ⟨by omega, by omega, hv2.trans (nI_add 1 r1)⟩
  have e3 : 10 ≤ 10 + r4 ∧ 10 + r4 ≤ 60 ∧ v3 = nI (10 + r4) := ⟨by omega, by omega, hv3.trans (nI_add 10 r4)⟩
  obtain ⟨⟨t, nC, nx, nB, nO, nP, a, ht, I⟩, g, o⟩ := B
  refine w_well I e2 e3 (fun τ u => ⟨fun _ => ?_, fun q => absurd q (by decide)⟩)
  exact w_turn hS e2 e3 (fun k s Bs => w_tail e2 e3 Bs hQ) 7 0 0 τ rfl ⟨⟨t, nC, nx, nB, nO, nP, a, ht, I.on u⟩, u.sg g, u.ou o⟩
theorem law_all (S : Scr) (hb : Nat) (hS : S.1 ≤ 260) : wL_begun S (mem0 hb) (fun s => wL_law S s (fun r _ => r = 1) (fun _ _ => False)) (fun _ _ => False) :=
  w_begun hS (bg0 hb) (fun _ B => w_law hS B (fun _ => rfl))
theorem whole_start {p : Program} {e : Env} {s : State} {m : MethodId} {below : List Frame} {meth : Method} {c : Code} (l : Launch) (hflags : l.flags = flags0) {b L : Nat} {xs : Nat → Int32} (hL : L ≤ 260) (C0 : lw_At p s m meth c b L xs) : W p l e room_1 s m #[Value.ref b] below meth c s.heap [] 0 0 (lw_Z below #[Value.ref b] s) (entryFrame m ([Value.ref b] : List Value).toArray 7) :=
  whole_of law_all l hflags hL C0
