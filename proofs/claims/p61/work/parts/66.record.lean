/-! what is recorded before a change -/
def cN (c : Nat) : Nat := if c = 8 then 8 else c + 1
theorem w_record {nx c k0 nB nO nP : Nat} {a : Nat → Int32} {σ : Mem} {Q : Mem → Prop} {E : String → Mem → Prop} (h1 : rd σ 5 0 1 = nI nx) (hx : nx < 8) (h2 : rd σ 5 0 2 = nI c) (hc : c ≤ 8) (hk0 : k0 < 3) (hB : nB ≤ 10) (hO : nO ≤ 8) (hP : nP ≤ 12) (S : Same σ k0 nB nO nP a)
    (h : ∀ τ : Mem, (∀ f k s : Nat, ¬ SIn (3 + nx) f k → ¬ (f = 5 ∧ k = 0 ∧ (s = 1 ∨ s = 2)) → rd τ f k s = rd σ f k s) → τ.2 = σ.2 → rd τ 5 0 1 = nI ((nx + 1) % 8) → rd τ 5 0 2 = nI (cN c) → Same τ (3 + nx) nB nO nP a → Q τ) : wX4_record k0 σ Q E := by
  unfold wX4_record
  rw [h1, nI_clamp (by omega)]
  refine ⟨vp_in_nI hx (by decide), w_stk (by omega) (by omega) (by omega) hB hO hP S (fun τ u1 u2 u3 => ?_)⟩
  have k1 : rd τ 5 0 1 = nI nx := (u1 5 0 1 (by unfold SIn; omega)).trans h1
  have k2 : rd τ 5 0 2 = nI c := (u1 5 0 2 (by unfold SIn; omega)).trans h2
  have ec : (if 8 < nI c + 1 then 8 else nI c + 1) = nI (cN c) := by
    unfold cN
    rw [nI_1, show (8 : Int32) = nI 8 from rfl, ]
    by_cases e : c = 8
    · subst e
      decide
    · rw [if_neg (nI_nlt (by omega) (by omega)), if_neg e]
  have fin : ∀ v1 v2 : Int32, v1 = nI ((nx + 1) % 8) → v2 = nI (cN c) → Q (wr (wr τ 5 0 1 v1) 5 0 2 v2) := by
    intro v1 v2 e1 e2
    refine h _ (fun f k s n1 n2 => ?_) u2 ?_ ?_ ?_
    · rw [rd_wr, if_neg (by omega), rd_wr, if_neg (by omega)]
      exact u1 f k s n1
    · rw [rd_wr, if_neg (by omega), rd_wr, if_pos ⟨rfl, rfl, rfl⟩, e1]
    · rw [rd_wr, if_pos ⟨rfl, rfl, rfl⟩, e2]
    · refine Same.on (fun f k' s hh => ?_) u3
      unfold SIn at hh
      rw [rd_wr, if_neg (by omega), rd_wr, if_neg (by omega)]
  show (8 ≤ rd τ 5 0 1 + 1 → _) ∧ (¬ 8 ≤ rd τ 5 0 1 + 1 → _)
  rw [k1, nI_1, show (8 : Int32) = nI 8 from rfl, nI_leI (by omega) (by omega)]
  refine ⟨fun q s4 hs4 s5 hs5 => ?_, fun q s4 hs4 s5 hs5 => ?_⟩
  · obtain rfl : nx = 7 := by omega
    rw [hs5, hs4]
    refine fin 0 _ rfl ?_
    rw [show rd (wr τ 5 0 1 0) 5 0 2 = nI c from k2]
    exact ec
  · rw [hs5, hs4]
    refine fin (nI (nx + 1)) _ (by rw [Nat.mod_eq_of_lt (by omega)]) ?_
    rw [show rd (wr τ 5 0 1 (nI (nx + 1))) 5 0 2 = nI c from k2]
    exact ec
