/-! TIMES TOLD -/
theorem ach_2880 {n m : Nat} {T : Nat → Nat} (hn : n ≤ 8) (hm : 0 < m) (hT : ∀ q : Nat, q < n → T q ≤ 360) : Ach T m n 0 (fun _ => 0) 2880 := by
  refine Ach_big hm n 0 _ (fun j _ => ?_)
  have e : sR T 0 n = sB T (2 ^ n - 1) n := sumN_cg fun q hq => by
    rw [Nat.testBit_two_pow_sub_one, decide_eq_true hq, if_pos rfl, Nat.zero_add]
  have h : sB T (2 ^ n - 1) n ≤ n * 360 := sB_le hT
  rw [e]
  omega
/-- the class's search -/
theorem w_bySearch {n m : Nat} {T : Nat → Nat} {x2 : Int32} {σ : Mem} {Q : Int32 → Mem → Prop} {E : String → Mem → Prop} (hx2 : x2 = nI m) (hm : m ≤ 3) (B : TSx σ n T) (h : ∀ (τ : Mem) (c : Nat), (∀ f k s : Nat, ¬ (f ≤ 1 ∧ k = 111) → ¬ f = 8 → rd τ f k s = rd σ f k s) → τ.2 = σ.2 → (∀ x : Nat, c ≤ x ↔ 2147483647 ≤ x ∨ (0 ≤ x ∧ Ach T m n 0 (fun _ => 0) x)) → c ≤ 2147483647 → Q (nI c) τ) : wX11_shortestBySearch x2 σ Q E := by
  subst hx2
  have hn := B.1
  have key : ∀ (X : Mem → Prop), (∀ τ : Mem, (∀ f k s : Nat, ¬ (f ≤ 1 ∧ k = 111) → rd τ f k s = rd σ f k s) → τ.2 = σ.2 → rd τ 0 111 1 = nI m → (∀ j : Nat, j < m → rd τ 1 111 j = nI 0) → X τ) → ∀ (u i : Nat) (σ' : Mem), i + u = m → (∀ f k s : Nat, ¬ (f ≤ 1 ∧ k = 111) → rd σ' f k s = rd σ f k s) → σ'.2 = σ.2 → rd σ' 0 111 1 = nI i → (∀ j : Nat, j < i → rd σ' 1 111 j = nI 0) → wX11_shortestBySearch_9 Q E X (u + 1) (nI m) (nI i) σ' := by
    intro X hX u
    induction u with
    | zero =>
      intro i σ' hi p1 p2 p3 p4
      obtain rfl : i = m := by omega
      exact ⟨fun _ => hX σ' p1 p2 p3 p4, fun r => absurd (nI_le (Nat.le_refl _) (by omega)) r⟩
    | succ u ih =>
      intro i σ' hi p1 p2 p3 p4
      refine ⟨fun r => absurd r (nI_ge (by omega) (by omega)), fun _ => ?_⟩
      refine w_add (k := 111) (n := i) p3 (show i < 3 by omega) (fun τ t1 t2 t3 t4 v hv => ?_)
      rw [nI_1] at hv
      rw [hv]
      refine ih (i + 1) τ (by omega) (fun f k s q => (t1 f k s q).trans (p1 f k s q)) (t2.trans p2) t3 (fun j hj => ?_)
      rw [t4]
      by_cases c : j = i
      · rw [if_pos c]
        rfl
      · rw [if_neg c]
        exact p4 j (by omega)
  intro s1 g1
  refine ⟨m + 1, key _ (fun τ t1 t2 t3 t4 s7 h7 => ?_) m 0 s1 (by omega) (fun f k s q => by rw [g1, rd_wr, if_neg (by omega)]) (by rw [g1]; rfl) (by rw [g1, rd_wr, if_pos ⟨rfl, rfl, rfl⟩]; rfl) (fun j hj => absurd hj (Nat.not_lt_zero j))⟩
  have fr : ∀ f k s : Nat, ¬ (f ≤ 1 ∧ k = 111) → ¬ f = 8 → rd s7 f k s = rd σ f k s := fun f k s q q2 => by rw [h7, rd_wr, if_neg (by omega), t1 f k s q]
  have BT : TCx s7 n m T := by
    obtain ⟨b1, b2, b3, b4, -⟩ := B
    exact ⟨b1, hm, (fr 0 5 1 (by omega) (by omega)).trans b2, (fr 0 8 1 (by omega) (by omega)).trans b3, by rw [h7, rd_wr, if_neg (by omega)]; exact t3, fun q hq => ⟨(fr 1 8 q (by omega) (by omega)).trans (b4 q hq).1, (b4 q hq).2⟩⟩
  refine w_tsearch (n := n) (m := m) 10 0 0 2147483647 (fun _ => 0) s7 _ (by omega) (by omega) (by omega) (fun j _ => Nat.zero_le _) (by omega) BT (fun j hj => by rw [h7, rd_wr, if_neg (by omega)]; exact t4 j hj) (by rw [h7, rd_wr, if_pos ⟨rfl, rfl, rfl⟩]; rfl) (fun y c' y1 y2 y3 y4 y5 => ?_)
  show Q (rd y 8 0 3) y
  rw [y3]
  exact h y c' (fun f k s q q2 => (y1 f k s (by omega)).trans (fr f k s q q2)) (by rw [y2, h7]; exact t2) y5 y4
