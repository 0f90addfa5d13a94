/-! A PIECE SOLD -/
theorem sumN_cg {p p' : Nat → Nat} {n : Nat} (h : ∀ q : Nat, q < n → p q = p' q) : sumN p n = sumN p' n := by
  induction n with
  | zero => rfl
  | succ n ih =>
    show sumN p n + p n = sumN p' n + p' n
    rw [ih fun q hq => h q (by omega), h n (by omega)]
theorem sumN_rm (p : Nat → Nat) (i n : Nat) (hi : i ≤ n) : sumN (fun q => p (rm i q)) n + p i = sumN p (n + 1) := by
  induction n with
  | zero =>
    obtain rfl : i = 0 := by omega
    rfl
  | succ n ih =>
    show sumN (fun q => p (rm i q)) n + p (rm i n) + p i = sumN p (n + 1) + p (n + 1)
    by_cases c : i ≤ n
    · have := ih c
      rw [show rm i n = n + 1 by unfold rm; rw [if_neg (by omega)]]
      omega
    · obtain rfl : i = n + 1 := by omega
      rw [show rm (n + 1) n = n by unfold rm; rw [if_pos (by omega)]]
      have : sumN (fun q => p (rm (n + 1) q)) n = sumN p n := sumN_cg fun q hq => by
        show p (rm (n + 1) q) = p q
        unfold rm
        rw [if_pos (by omega)]
      rw [this]
      show sumN p n + p n + p (n + 1) = sumN p n + p n + p (n + 1)
      rfl
theorem ix_pie (i : Nat) : 78 + nI i = nI (78 + i) := by
  rw [show (78 : Int32) = nI 78 from rfl, nI_add]
/-- what a piece brings -/
def wth (l : Int32) : Int32 := if l < 10 then l * 2 else l * 5
def r_sell (a : Nat → Int32) (i n : Nat) : Nat → Int32 := up (clo (up (up (up a 0 (a 0 + wth (a (78 + i)))) 5 (a 5 + wth (a (78 + i)))) 8 (a 8 + a (78 + i))) (78 + i) 1 90) 13 (nI n)
theorem w_worthAt {i n : Nat} {x : Int32} {σ : Mem} {Q : Int32 → Mem → Prop} {E : String → Mem → Prop} (hk : rd σ 0 9 1 = nI n) (hi : i < n) (hn : n ≤ 12) (hx : x = nI i) (h : Q (wth (rd σ 1 9 i)) σ) : wX10_worthAt 0 x σ Q E := by
  refine w_get (k := 9) hk hi hn hx ?_
  unfold wth at h
  refine ⟨fun q => ?_, fun q => ?_⟩
  · rw [if_pos q] at h
    exact h
  · rw [if_neg q] at h
    exact h
theorem sell_o {a : Nat → Int32} {i n s : Nat} (hi : i < 12) (h : s < 78) (h0 : s ≠ 0) (h5 : s ≠ 5) (h8 : s ≠ 8) (h13 : s ≠ 13) : r_sell a i n s = a s := by
  unfold r_sell
  rw [up_ne h13, clo_lt (by omega) (by omega), up_ne h8, up_ne h5, up_ne h0]
theorem sell_q {a : Nat → Int32} {i n q : Nat} (hi : i < n + 1) (hn : n + 1 ≤ 12) (hq : q < n) : r_sell a i n (78 + q) = a (78 + rm i q) := by
  unfold r_sell rm
  rw [up_ne (by omega)]
  by_cases c : q < i
  · rw [if_pos c, clo_lt (by omega) (by omega), up_ne (by omega), up_ne (by omega), up_ne (by omega)]
  · rw [if_neg c, clo_in (by omega) (by omega), up_ne (by omega), up_ne (by omega), up_ne (by omega), Nat.add_assoc]
theorem sell_0 {a : Nat → Int32} {i n : Nat} (hi : i < 12) : r_sell a i n 0 = a 0 + wth (a (78 + i)) := by
  unfold r_sell
  rw [up_ne (by omega), clo_lt (by omega) (by omega), up_ne (by omega), up_ne (by omega), up_eq]
theorem sell_5 {a : Nat → Int32} {i n : Nat} (hi : i < 12) : r_sell a i n 5 = a 5 + wth (a (78 + i)) := by
  unfold r_sell
  rw [up_ne (by omega), clo_lt (by omega) (by omega), up_ne (by omega), up_eq]
theorem sell_8 {a : Nat → Int32} {i n : Nat} (hi : i < 12) : r_sell a i n 8 = a 8 + a (78 + i) := by
  unfold r_sell
  rw [up_ne (by omega), clo_lt (by omega) (by omega), up_eq]
