/-! TWO PIECES SPLICED -/
theorem w_pair0 {k n : Nat} {x : Int32} {σ : Mem} {Q : Int32 → Mem → Prop} {E : String → Mem → Prop} (hk : rd σ 0 k 1 = nI n) (hn : n ≤ 12) (hb : ∀ i : Nat, i + 1 < n → ¬ x = nI i) (h : Q 0 σ) : wX7_hasPair k x σ Q E := by
  unfold wX7_hasPair
  rw [hk]
  refine ⟨fun _ => h, fun q => ⟨fun _ => h, fun r => ?_⟩⟩
  obtain ⟨i, hi, rfl⟩ := nI_of q
  cases n with
  | zero =>
    refine absurd ?_ r
    rw [Int32.le_iff_toInt_le, nI_toInt hi]
    show (-1 : Int) ≤ (i : Int)
    omega
  | succ n =>
    rw [nI_pred] at r
    by_cases c : i < n
    · exact absurd rfl (hb i (by omega))
    · exact absurd (nI_le (by omega) hi) r
theorem w_pair1 {k n i : Nat} {x : Int32} {σ : Mem} {Q : Int32 → Mem → Prop} {E : String → Mem → Prop} (hk : rd σ 0 k 1 = nI n) (hn : n ≤ 12) (hi : i + 1 < n) (hx : x = nI i) (h : Q 1 σ) : wX7_hasPair k x σ Q E := by
  subst hx
  unfold wX7_hasPair
  rw [hk]
  obtain ⟨m, rfl⟩ : ∃ m, n = m + 1 := ⟨n - 1, by omega⟩
  rw [nI_pred]
  exact ⟨fun q => absurd q (nI_pos (by omega)), fun _ => ⟨fun r => absurd r (nI_ge (by omega) (by omega)), fun _ => h⟩⟩
def r_spl (a : Nat → Int32) (i n : Nat) : Nat → Int32 := up (up (clo (up (up a 2 (a 2 + (a (78 + i) + a (78 + i + 1)))) 7 (a 7 + 1)) (78 + i) 1 90) (78 + i) (a (78 + i) + a (78 + i + 1) - 1)) 13 (nI n)
theorem spl_o {a : Nat → Int32} {i n s : Nat} (hi : i < 12) (h : s < 78) (h2 : s ≠ 2) (h7 : s ≠ 7) (h13 : s ≠ 13) : r_spl a i n s = a s := by
  unfold r_spl
  rw [up_ne h13, up_ne (by omega), clo_lt (by omega) (by omega), up_ne h7, up_ne h2]
theorem spl_2 {a : Nat → Int32} {i n : Nat} (hi : i < 12) : r_spl a i n 2 = a 2 + (a (78 + i) + a (78 + i + 1)) := by
  unfold r_spl
  rw [up_ne (by omega), up_ne (by omega), clo_lt (by omega) (by omega), up_ne (by omega), up_eq]
theorem spl_7 {a : Nat → Int32} {i n : Nat} (hi : i < 12) : r_spl a i n 7 = a 7 + 1 := by
  unfold r_spl
  rw [up_ne (by omega), up_ne (by omega), clo_lt (by omega) (by omega), up_eq]
theorem spl_i {a : Nat → Int32} {i n : Nat} : r_spl a i n (78 + i) = a (78 + i) + a (78 + i + 1) - 1 := by
  unfold r_spl
  rw [up_ne (by omega), up_eq]
theorem spl_q {a : Nat → Int32} {i n q : Nat} (hi : i + 1 < n + 1) (hn : n + 1 ≤ 12) (hq : q < n) (hne : q ≠ i) : r_spl a i n (78 + q) = a (78 + rm (i + 1) q) := by
  unfold r_spl rm
  rw [up_ne (by omega), up_ne (by omega)]
  by_cases c : q < i + 1
  · rw [if_pos c, clo_lt (by omega) (by omega), up_ne (by omega), up_ne (by omega)]
  · rw [if_neg c, clo_in (by omega) (by omega), up_ne (by omega), up_ne (by omega), Nat.add_assoc]
theorem sumN_up (f : Nat → Nat) (i v n : Nat) (hi : i < n) : sumN (fun q => if q = i then v else f q) n + f i = sumN f n + v := by
  induction n with
  | zero => exact absurd hi (Nat.not_lt_zero i)
  | succ n ih =>
    show sumN (fun q => if q = i then v else f q) n + (if n = i then v else f n) + f i = sumN f n + f n + v
    by_cases c : n = i
    · subst c
      rw [if_pos rfl, sumN_cg (p' := f) (fun q hq => if_neg (by omega))]
      omega
    · rw [if_neg c]
      have := ih (by omega)
      omega
