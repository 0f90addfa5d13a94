/-! THE COMMANDS OF A SCRIPT CARRIED OUT -/
theorem st_ref {c : Nat} {x1 x2 x3 y1 y2 y3 : Int32} {σ : Mem} {Q : Nat → Mem → Prop} {E : String → Mem → Prop} (hc : c < 9) (h1 : 0 < nn c → x1 = y1) (h2 : 1 < nn c → x2 = y2) (h3 : 2 < nn c → x3 = y3) (H : wX12_refusalOf c x1 x2 x3 σ Q E) : wX12_refusalOf c y1 y2 y3 σ Q E := by
  rcases c with _ | _ | _ | _ | _ | _ | _ | _ | _ | c
  all_goals first | (exfalso; omega) | skip
  · rw [← h1 (by decide), ← h2 (by decide), ← h3 (by decide)]
    exact ⟨H.1, fun q => absurd q (by decide), fun q => absurd q (by decide), fun q => absurd q (by decide), fun q => absurd q (by decide), fun q => absurd q (by decide), fun q => absurd q (by decide), fun q => absurd q (by decide), fun q => absurd q (by decide)⟩
  · rw [← h1 (by decide), ← h2 (by decide)]
    exact ⟨fun q => absurd q (by decide), H.2.1, fun q => absurd q (by decide), fun q => absurd q (by decide), fun q => absurd q (by decide), fun q => absurd q (by decide), fun q => absurd q (by decide), fun q => absurd q (by decide), fun q => absurd q (by decide)⟩
  · rw [← h1 (by decide), ← h2 (by decide)]
    exact ⟨fun q => absurd q (by decide), fun q => absurd q (by decide), H.2.2.1, fun q => absurd q (by decide), fun q => absurd q (by decide), fun q => absurd q (by decide), fun q => absurd q (by decide), fun q => absurd q (by decide), fun q => absurd q (by decide)⟩
  · rw [← h1 (by decide)]
    exact ⟨fun q => absurd q (by decide), fun q => absurd q (by decide), fun q => absurd q (by decide), H.2.2.2.1, fun q => absurd q (by decide), fun q => absurd q (by decide), fun q => absurd q (by decide), fun q => absurd q (by decide), fun q => absurd q (by decide)⟩
  · rw [← h1 (by decide)]
    exact ⟨fun q => absurd q (by decide), fun q => absurd q (by decide), fun q => absurd q (by decide), fun q => absurd q (by decide), H.2.2.2.2.1, fun q => absurd q (by decide), fun q => absurd q (by decide), fun q => absurd q (by decide), fun q => absurd q (by decide)⟩
  · rw [← h1 (by decide)]
    exact ⟨fun q => absurd q (by decide), fun q => absurd q (by decide), fun q => absurd q (by decide), fun q => absurd q (by decide), fun q => absurd q (by decide), H.2.2.2.2.2.1, fun q => absurd q (by decide), fun q => absurd q (by decide), fun q => absurd q (by decide)⟩
  · rw [← h1 (by decide)]
    exact ⟨fun q => absurd q (by decide), fun q => absurd q (by decide), fun q => absurd q (by decide), fun q => absurd q (by decide), fun q => absurd q (by decide), fun q => absurd q (by decide), H.2.2.2.2.2.2.1, fun q => absurd q (by decide), fun q => absurd q (by decide)⟩
  · exact ⟨fun q => absurd q (by decide), fun q => absurd q (by decide), fun q => absurd q (by decide), fun q => absurd q (by decide), fun q => absurd q (by decide), fun q => absurd q (by decide), fun q => absurd q (by decide), H.2.2.2.2.2.2.2.1, fun q => absurd q (by decide)⟩
  · rw [← h1 (by decide)]
    exact ⟨fun q => absurd q (by decide), fun q => absurd q (by decide), fun q => absurd q (by decide), fun q => absurd q (by decide), fun q => absurd q (by decide), fun q => absurd q (by decide), fun q => absurd q (by decide), fun q => absurd q (by decide), H.2.2.2.2.2.2.2.2⟩
theorem st_car {c : Nat} {x1 x2 x3 y1 y2 y3 : Int32} {σ : Mem} {Q : Int32 → Mem → Prop} {E : String → Mem → Prop} (hc : c < 9) (h1 : 0 < nn c → x1 = y1) (h2 : 1 < nn c → x2 = y2) (h3 : 2 < nn c → x3 = y3) (H : wX12_carryOut c x1 x2 x3 σ Q E) : wX12_carryOut c y1 y2 y3 σ Q E := by
  rcases c with _ | _ | _ | _ | _ | _ | _ | _ | _ | c
  all_goals first | (exfalso; omega) | skip
  · rw [← h1 (by decide), ← h2 (by decide), ← h3 (by decide)]
    exact ⟨H.1, fun q => absurd q (by decide), fun q => absurd q (by decide), fun q => absurd q (by decide), fun q => absurd q (by decide), fun q => absurd q (by decide), fun q => absurd q (by decide), fun q => absurd q (by decide), fun q => absurd q (by decide)⟩
  · rw [← h1 (by decide), ← h2 (by decide)]
    exact ⟨fun q => absurd q (by decide), H.2.1, fun q => absurd q (by decide), fun q => absurd q (by decide), fun q => absurd q (by decide), fun q => absurd q (by decide), fun q => absurd q (by decide), fun q => absurd q (by decide), fun q => absurd q (by decide)⟩
  · rw [← h1 (by decide), ← h2 (by decide)]
    exact ⟨fun q => absurd q (by decide), fun q => absurd q (by decide), H.2.2.1, fun q => absurd q (by decide), fun q => absurd q (by decide), fun q => absurd q (by decide), fun q => absurd q (by decide), fun q => absurd q (by decide), fun q => absurd q (by decide)⟩
  · rw [← h1 (by decide)]
    exact ⟨fun q => absurd q (by decide), fun q => absurd q (by decide), fun q => absurd q (by decide), H.2.2.2.1, fun q => absurd q (by decide), fun q => absurd q (by decide), fun q => absurd q (by decide), fun q => absurd q (by decide), fun q => absurd q (by decide)⟩
  · rw [← h1 (by decide)]
    exact ⟨fun q => absurd q (by decide), fun q => absurd q (by decide), fun q => absurd q (by decide), fun q => absurd q (by decide), H.2.2.2.2.1, fun q => absurd q (by decide), fun q => absurd q (by decide), fun q => absurd q (by decide), fun q => absurd q (by decide)⟩
  · rw [← h1 (by decide)]
    exact ⟨fun q => absurd q (by decide), fun q => absurd q (by decide), fun q => absurd q (by decide), fun q => absurd q (by decide), fun q => absurd q (by decide), H.2.2.2.2.2.1, fun q => absurd q (by decide), fun q => absurd q (by decide), fun q => absurd q (by decide)⟩
  · rw [← h1 (by decide)]
    exact ⟨fun q => absurd q (by decide), fun q => absurd q (by decide), fun q => absurd q (by decide), fun q => absurd q (by decide), fun q => absurd q (by decide), fun q => absurd q (by decide), H.2.2.2.2.2.2.1, fun q => absurd q (by decide), fun q => absurd q (by decide)⟩
  · exact ⟨fun q => absurd q (by decide), fun q => absurd q (by decide), fun q => absurd q (by decide), fun q => absurd q (by decide), fun q => absurd q (by decide), fun q => absurd q (by decide), fun q => absurd q (by decide), H.2.2.2.2.2.2.2.1, fun q => absurd q (by decide)⟩
  · rw [← h1 (by decide)]
    exact ⟨fun q => absurd q (by decide), fun q => absurd q (by decide), fun q => absurd q (by decide), fun q => absurd q (by decide), fun q => absurd q (by decide), fun q => absurd q (by decide), fun q => absurd q (by decide), fun q => absurd q (by decide), H.2.2.2.2.2.2.2.2⟩
theorem w_cmdAt {i c : Nat} {σ : Mem} {Q : Option Nat → Mem → Prop} {E : String → Mem → Prop} (hi : i < 60) (hc : c < 9) (e : rd σ 12 0 i = nI (c + 1)) (h : Q (some c) σ) : wX8_commandAt (nI i) σ Q E := by
  have ec : cmdO (nI (c + 1)) = some c := by
    have : ∀ c : Nat, c < 9 → cmdO (nI (c + 1)) = some c := by decide +kernel
    exact this c hc
  refine ⟨fun q => absurd q (nI_pos (by omega)), fun _ => ⟨fun q => ?_, fun _ => ?_⟩⟩
  · rw [show (60 : Int32) = nI 60 from rfl, nI_leI (by omega) (by omega)] at q
    omega
  · rw [nI_clamp (by omega), e, ec]
    refine ⟨vp_in_nI hi (by decide), fun j hj => ?_, fun o1 ho => ⟨fun z => ?_, fun j2 hj2 => ?_⟩⟩
    · have := Option.some.inj hj
      omega
    · rw [ho] at z
      exact nomatch z
    · rw [ho] at hj2
      rw [← Option.some.inj hj2]
      exact h
theorem w_numAt {i q : Nat} {x : Int32} {σ : Mem} {Q : Int32 → Mem → Prop} {E : String → Mem → Prop} (hi : i < 60) (hq : q < 3) (hx : x = nI q) (h : Q (rd σ 10 7 (3 * i + q)) σ) : wX8_numberAt (nI i) x σ Q E := by
  subst hx
  intro v3 hv3
  rw [show (3 : Int32) = nI 3 from rfl, pk_mul, nI_add, show i * 3 + q = 3 * i + q by omega] at hv3
  subst hv3
  refine ⟨fun z => absurd z (nI_pos (by omega)), fun _ => ⟨fun z => ?_, fun _ => ?_⟩⟩
  · rw [nI_leI (by decide) (by omega)] at z
    have z' : 180 ≤ 3 * i + q := z
    omega
  · rw [nI_clamp (by omega)]
    exact ⟨vp_in_nI (show 3 * i + q < 180 by omega) (by decide), h⟩
/-- the commands that the class keeps -/
def KC (C : Nat → Nat) (X : Nat → Nat → Int32) (N : Nat) (σ : Mem) : Prop := rd σ 11 0 3 = nI N ∧ ∀ i : Nat, i < N → C i < 9 ∧ rd σ 12 0 i = nI (C i + 1) ∧ ∀ q : Nat, q < nn (C i) → rd σ 10 7 (3 * i + q) = X i q
theorem KC.to {C : Nat → Nat} {X : Nat → Nat → Int32} {N : Nat} {σ τ : Mem} (h : KC C X N σ) (g : FrC σ τ) : KC C X N τ := by
  have e : ∀ f k s : Nat, f = 11 ∨ f = 12 ∨ (f = 10 ∧ k = 7) → rd τ f k s = rd σ f k s := fun f k s hf => g.1 f k s (by unfold SIn; omega) (by unfold scc; omega)
  exact ⟨(e 11 0 3 (by omega)).trans h.1, fun i hi => ⟨(h.2 i hi).1, (e 12 0 i (by omega)).trans (h.2 i hi).2.1, fun q hq => (e 10 7 _ (by omega)).trans ((h.2 i hi).2.2 q hq)⟩⟩
theorem Zer.to {σ τ : Mem} (h : Zer σ) (g : FrC σ τ) : Zer τ := ⟨fun k hk => (g.1 10 k 0 (by unfold SIn; omega) (by unfold scc; omega)).trans (h.1 k hk), fun m hm => (g.1 10 12 m (by unfold SIn; omega) (by unfold scc; omega)).trans (h.2 m hm)⟩
theorem w_oneC {C : Nat → Nat} {X : Nat → Nat → Int32} {N i f : Nat} {σ : Mem} {Q : Int32 → Mem → Prop} {E : String → Mem → Prop} (hN : N ≤ 13) (hi : i < N) (K : KC C X N σ)
    (h : wX12_refusalOf (C i) (X i 0) (X i 1) (X i 2) σ (fun (r18 : Nat) (s19 : Mem) => ((r18 = 0 → wX12_carryOut (C i) (rd σ 10 7 (3 * i + 0)) (rd σ 10 7 (3 * i + 1)) (rd σ 10 7 (3 * i + 2)) s19 (fun (_ : Int32) (s21 : Mem) => wX12_runCommands_2 Q E (fun x s => Q x s) (fun s => Q (-1) s) f (nI (i + 1)) s21) E) ∧ (¬ r18 = 0 → Q (nI i) s19))) E) :
    wX12_runCommands_2 Q E (fun x s => Q x s) (fun s => Q (-1) s) (f + 1) (nI i) σ := by
  obtain ⟨k1, k2⟩ := K
  obtain ⟨c1, c2, c3⟩ := k2 i hi
  show wX8_count σ _ E
  unfold wX8_count
  rw [k1]
  refine ⟨fun z => ?_, fun _ => w_cmdAt (by omega) c1 c2 ⟨fun z => (nomatch z), fun j hj => ?_⟩⟩
  · rw [nI_leI (by omega) (by omega)] at z
    omega
  obtain rfl : C i = j := Option.some.inj hj
  refine w_numAt (q := 0) (by omega) (by decide) rfl (w_numAt (q := 1) (by omega) (by decide) rfl (w_numAt (q := 2) (by omega) (by decide) rfl ?_))
  have H := st_ref (y1 := rd σ 10 7 (3 * i + 0)) (y2 := rd σ 10 7 (3 * i + 1)) (y3 := rd σ 10 7 (3 * i + 2)) c1 (fun z => (c3 0 z).symm) (fun z => (c3 1 z).symm) (fun z => (c3 2 z).symm) h
  simp only [nI_1]
  simp only [forall_eq]
  exact H
