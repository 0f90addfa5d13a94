/-! TIMES TOLD -/
theorem tim_cx {t nB nO nP : Nat} {a : Nat → Int32} {σ : Mem} (F : Fits t nB nO nP a) (S : Same σ 0 nB nO nP a) (Z : Zer σ) : ∃ (m : Nat) (l w : Nat → Nat), (1 ≤ m ∧ m ≤ 3) ∧ a 3 = nI m ∧ rd σ 4 0 4 = nI m ∧ TSx σ nO (fun q => l q * w q) ∧ (∀ τ : Mem, rd τ 10 8 = a → TRx τ nO m l w) ∧ ∀ q : Nat, q < nO → l q * w q ≤ 360 := by
  obtain ⟨l, w, hb⟩ := ord_lw F
  obtain ⟨m, m1, m2, m3⟩ := F.2.1
  have hk : ∀ q : Nat, q < nO → l q * w q ≤ 360 := fun q hq => mul_le360 (hb q hq).2.2.2.1 (hb q hq).2.2.2.2.2
  refine ⟨m, l, w, ⟨m1, m2⟩, m3, S.1.2.2.2.1.trans m3, ⟨F.1.2.1, S.2.2.1 0 (by decide), S.2.2.1 3 (by decide), fun q hq => ⟨?_, hk q hq⟩, Z.1 3 (by decide)⟩, fun τ hτ => ⟨F.1.2.1, m2, by rw [hτ]; exact F.1.2.2.2.2.1, by rw [hτ]; exact m3, fun q hq => ?_⟩, hk⟩
  · show rd σ 1 8 q = nI (l q * w q)
    rw [show rd σ 1 8 q = a (55 + 3 * q) * a (56 + 3 * q) from (S.2.2.2.2.2.1 q hq).2.2.2, (hb q hq).1, (hb q hq).2.1, pk_mul]
  · rw [hτ]
    exact ⟨(hb q hq).1, (hb q hq).2.1, (hb q hq).2.2.2.1, (hb q hq).2.2.2.2.2⟩
theorem ach_2880 {n m : Nat} {T : Nat → Nat} (hn : n ≤ 8) (hm : 0 < m) (hT : ∀ q : Nat, q < n → T q ≤ 360) : Ach T m n 0 (fun _ => 0) 2880 := by
  refine Ach_big hm n 0 _ (fun j _ => ?_)
  have e : sR T 0 n = sB T (2 ^ n - 1) n := sumN_cg fun q hq => by
    rw [Nat.testBit_two_pow_sub_one, decide_eq_true hq, if_pos rfl, Nat.zero_add]
  have h : sB T (2 ^ n - 1) n ≤ n * 360 := sB_le hT
  rw [e]
  omega
/-- the reference's shortest time -/
theorem w_timeR {n m : Nat} {l w : Nat → Nat} {σ : Mem} {Q : Int32 → Mem → Prop} {E : String → Mem → Prop} (hm : 1 ≤ m) (B : ∀ τ : Mem, rd τ 10 8 = rd σ 10 8 → TRx τ n m l w) (hZ : ∀ j : Nat, j < 3 → rd σ 10 12 j = 0) (h : ∀ (τ : Mem) (c : Nat), Kp σ τ → (∀ x : Nat, c ≤ x ↔ 999999 ≤ x ∨ (0 ≤ x ∧ Ach (fun q => l q * w q) m n 0 (fun _ => 0) x)) → c ≤ 999999 → rd τ 10 8 = rd σ 10 8 → Q (nI c) τ) : wX13_shortestTime σ Q E := by
  intro s1 h1 s2 h2
  have fr : ∀ f k s : Nat, ¬ (f = 15 ∧ k = 0 ∧ (s = 7 ∨ s = 11)) → rd s2 f k s = rd σ f k s := fun f k s n => by rw [h2, rd_wr, if_neg (by omega), h1, rd_wr, if_neg (by omega)]
  have e8 : rd s2 10 8 = rd σ 10 8 := funext fun s => fr 10 8 s (by omega)
  have B2 := B s2 e8
  have hn := B2.1
  have hm3 := B2.2.1
  refine w_gives (n := n) (m := m) 10 0 0 999999 (fun _ => 0) s2 _ (by omega) (by omega) (by omega) (fun j _ => Nat.zero_le _) (by omega) B2 (fun j hj => (fr 10 12 j (by omega)).trans (hZ j (by omega))) (by rw [h2, rd_wr, if_pos ⟨rfl, rfl, rfl⟩]; rfl) (fun τ c' t1 t2 t3 t4 t5 => ?_)
  show Q (rd τ 15 0 11) τ
  rw [t3]
  refine h τ c' ⟨fun f k s e => ?_, by rw [t2, h2, h1]; rfl⟩ t5 t4 ((funext fun s => t1 10 8 s (by omega)).trans e8)
  have ne : ¬ (f = 15 ∧ k = 0 ∧ (s = 7 ∨ s = 11)) := by
    rintro ⟨rfl, -, rfl | rfl⟩ <;> simp [ess] at e
  rw [t1 f k s (by omega), fr f k s ne]
/-- the class's search -/
theorem w_bySearch {n m : Nat} {T : Nat → Nat} {x2 : Int32} {σ : Mem} {Q : Int32 → Mem → Prop} {E : String → Mem → Prop} (hx2 : x2 = nI m) (hm : m ≤ 3) (B : TSx σ n T) (h : ∀ (τ : Mem) (c : Nat), (∀ f k s : Nat, ¬ (f ≤ 1 ∧ k = 111) → ¬ f = 8 → rd τ f k s = rd σ f k s) → τ.2 = σ.2 → (∀ x : Nat, c ≤ x ↔ 2147483647 ≤ x ∨ (0 ≤ x ∧ Ach T m n 0 (fun _ => 0) x)) → c ≤ 2147483647 → Q (nI c) τ) : wX11_shortestBySearch x2 σ Q E := by
  subst hx2
  have hn := B.1
  have key : ∀ (X : Mem → Prop), (∀ τ : Mem, (∀ f k s : Nat, ¬ (f ≤ 1 ∧ k = 111) → rd τ f k s = rd σ f k s) → τ.2 = σ.2 → rd τ 0 111 1 = nI m → (∀ j : Nat, j < m → rd τ 1 111 j = nI 0) → X τ) → ∀ (u i : Nat) (σ' : Mem), i + u = m → (∀ f k s : Nat, ¬ (f ≤ 1 ∧ k = 111) → rd σ' f k s = rd σ f k s) → σ'.2 = σ.2 → rd σ' 0 111 1 = nI i → (∀ j : Nat, j < i → rd σ' 1 111 j = nI 0) → wX11_shortestBySearch_9 Q E X (u + 1) (nI m) (nI i) σ' := by
    intro X hX u
    induction u with
    | zero =>
      intro i σ' hi p1 p2 p3 p4
      obtain rfl : i = m := by omega
      exact ⟨fun _ => hX σ' p1 p2 p3 p4, fun r => absurd (nI_le (Nat.le_refl _) (by omega)) r⟩
    | succ u ih =>
      intro i σ' hi p1 p2 p3 p4
      refine ⟨fun r => absurd r (nI_ge (by omega) (by omega)), fun _ => ?_⟩
      refine w_add (k := 111) (n := i) p3 (show i < 3 by omega) (fun τ t1 t2 t3 t4 v hv => ?_)
      rw [nI_1] at hv
      rw [hv]
      refine ih (i + 1) τ (by omega) (fun f k s q => (t1 f k s q).trans (p1 f k s q)) (t2.trans p2) t3 (fun j hj => ?_)
      rw [t4]
      by_cases c : j = i
      · rw [if_pos c]
        rfl
      · rw [if_neg c]
        exact p4 j (by omega)
  intro s1 g1
  refine ⟨m + 1, key _ (fun τ t1 t2 t3 t4 s7 h7 => ?_) m 0 s1 (by omega) (fun f k s q => by rw [g1, rd_wr, if_neg (by omega)]) (by rw [g1]; rfl) (by rw [g1, rd_wr, if_pos ⟨rfl, rfl, rfl⟩]; rfl) (fun j hj => absurd hj (Nat.not_lt_zero j))⟩
  have fr : ∀ f k s : Nat, ¬ (f ≤ 1 ∧ k = 111) → ¬ f = 8 → rd s7 f k s = rd σ f k s := fun f k s q q2 => by rw [h7, rd_wr, if_neg (by omega), t1 f k s q]
  have BT : TCx s7 n m T := by
    obtain ⟨b1, b2, b3, b4, -⟩ := B
    exact ⟨b1, hm, (fr 0 5 1 (by omega) (by omega)).trans b2, (fr 0 8 1 (by omega) (by omega)).trans b3, by rw [h7, rd_wr, if_neg (by omega)]; exact t3, fun q hq => ⟨(fr 1 8 q (by omega) (by omega)).trans (b4 q hq).1, (b4 q hq).2⟩⟩
  refine w_tsearch (n := n) (m := m) 10 0 0 2147483647 (fun _ => 0) s7 _ (by omega) (by omega) (by omega) (fun j _ => Nat.zero_le _) (by omega) BT (fun j hj => by rw [h7, rd_wr, if_neg (by omega)]; exact t4 j hj) (by rw [h7, rd_wr, if_pos ⟨rfl, rfl, rfl⟩]; rfl) (fun y c' y1 y2 y3 y4 y5 => ?_)
  show Q (rd y 8 0 3) y
  rw [y3]
  exact h y c' (fun f k s q q2 => (y1 f k s (by omega)).trans (fr f k s q q2)) (by rw [y2, h7]; exact t2) y5 y4
theorem kp8 {σ τ : Mem} (h : ∀ f k s : Nat, ¬ (f ≤ 1 ∧ k = 111) → ¬ f = 8 → rd τ f k s = rd σ f k s) (h2 : τ.2 = σ.2) : Kp σ τ := by
  refine ⟨fun f k s e => h f k s ?_ ?_, by rw [h2]⟩
  · rintro ⟨hf, rfl⟩
    have : f = 0 ∨ f = 1 := by omega
    simp [ess, this] at e
  · rintro rfl
    simp [ess] at e
theorem pC_26 {j : Nat} {σ : Mem} (I : Inv j σ) : wC_26 σ (Inv (j + 1)) := by
  have hZ := I.z
  obtain ⟨t, nB, nO, nP, htj, F, S⟩ := I.st
  obtain ⟨m, l, w, hm, m3, m4, BS, BR, hT⟩ := tim_cx F S hZ
  unfold wC_26 wX12_shortestTime
  refine w_bySets m4 hm BS (fun τ c t1 tc t2 => ?_)
  have e8 : rd τ 10 8 = rd σ 10 8 := funext fun s => t1.1 10 8 s (by omega)
  refine w_timeR (n := nO) (m := m) (l := l) (w := w) hm.1 (fun y hy => BR y (hy.trans e8)) (fun j hj => (t1.1 10 12 j (by omega)).trans (hZ.2 j hj)) (fun y c2 y1 y2 y3 _ => ⟨?_, I.to (t1.kp.tr y1)⟩)
  have h1 : ∀ x : Nat, c ≤ x ↔ 1000000 ≤ x ∨ (0 ≤ x ∧ Ach (fun q => l q * w q) m nO 0 (fun _ => 0) x) := fun x => by
    rw [t2 x, Aj_Ach (by omega)]
    refine ⟨fun q => Or.inr ⟨Nat.zero_le x, q⟩, fun q => ?_⟩
    rcases q with q | q
    · rw [← Aj_Ach (by omega), ← t2 x]
      omega
    · exact q.2
  rw [(opt_eq h1 y2 (ach_2880 F.1.2.1 (by omega) hT) (by omega) (by omega)).1]
theorem pC_27 {j : Nat} {σ : Mem} (I : Inv j σ) : wC_27 σ (Inv (j + 1)) := by
  have hZ := I.z
  obtain ⟨t, nB, nO, nP, htj, F, S⟩ := I.st
  obtain ⟨m, l, w, hm, m3, m4, BS, BR, hT⟩ := tim_cx F S hZ
  unfold wC_27 wX12_shortestTimeBySearch wX13_shortestTimeBySearch
  refine w_bySearch m4 hm.2 BS (fun τ c t1 t0 t2 tc => ?_)
  have e8 : rd τ 10 8 = rd σ 10 8 := funext fun s => t1 10 8 s (by omega) (by omega)
  refine w_timeR (n := nO) (m := m) (l := l) (w := w) hm.1 (fun y hy => BR y (hy.trans e8)) (fun j hj => (t1 10 12 j (by omega) (by omega)).trans (hZ.2 j hj)) (fun y c2 y1 y2 y3 _ => ⟨?_, I.to ((kp8 t1 t0).tr y1)⟩)
  rw [(opt_eq t2 y2 (ach_2880 F.1.2.1 (by omega) hT) (by omega) (by omega)).1]
