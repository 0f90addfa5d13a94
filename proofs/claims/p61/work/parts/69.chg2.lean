/-! A CHANGE: one lemma for all nine -/
def exN : Nat → String
  | 1 => "java/lang/IllegalArgumentException"
  | 2 => "java/lang/IllegalStateException"
  | 3 => "java/lang/UnsupportedOperationException"
  | 4 => "java/util/NoSuchElementException"
  | _ => "java/lang/IndexOutOfBoundsException"
theorem w_throw {r : Nat} {σ : Mem} {Q : Mem → Prop} {E : String → Mem → Prop} (h1 : 1 ≤ r ∧ r ≤ 5) (h : E (exN r) σ) : wX12_throwFor r σ Q E := by
  unfold wX12_throwFor
  match r, h1, h with
  | 1, _, h => exact ⟨fun q => absurd rfl q, fun _ => h⟩
  | 2, _, h => exact ⟨fun _ => ⟨fun q => absurd rfl q, fun _ => h⟩, fun q => absurd q (by decide)⟩
  | 3, _, h => exact ⟨fun _ => ⟨fun _ => ⟨fun q => absurd rfl q, fun _ => h⟩, fun q => absurd q (by decide)⟩, fun q => absurd q (by decide)⟩
  | 4, _, h => exact ⟨fun _ => ⟨fun _ => ⟨fun _ => ⟨fun q => absurd rfl q, fun _ => h⟩, fun q => absurd q (by decide)⟩, fun q => absurd q (by decide)⟩, fun q => absurd q (by decide)⟩
  | 5, _, h => exact ⟨fun _ => ⟨fun _ => ⟨fun _ => ⟨fun _ => ⟨fun q => absurd rfl q, fun _ => h⟩, fun q => absurd q (by decide)⟩, fun q => absurd q (by decide)⟩, fun q => absurd q (by decide)⟩, fun q => absurd q (by decide)⟩
theorem w_throw0 {σ : Mem} {Q : Mem → Prop} {E : String → Mem → Prop} (h : Q σ) : wX12_throwFor 0 σ Q E :=
  ⟨fun _ => ⟨fun _ => ⟨fun _ => ⟨fun _ => ⟨fun _ => h, fun q => absurd q (by decide)⟩, fun q => absurd q (by decide)⟩, fun q => absurd q (by decide)⟩, fun q => absurd q (by decide)⟩, fun q => absurd q (by decide)⟩
