/-! POSITIONS: rows, bounds, and what stands at a position -/
theorem w_has {k n : Nat} {a : Int32} {σ : Mem} {Q : Int32 → Mem → Prop} {E : String → Mem → Prop} (hn : n < 2 ^ 31) (hk : rd σ 0 k 1 = nI n) (h1 : ∀ i : Nat, i < n → a = nI i → Q 1 σ) (h2 : a < 0 ∨ nI n ≤ a → Q 0 σ) : wX7_has k a σ Q E := by
  unfold wX7_has
  rw [hk]
  refine ⟨fun q => h2 (Or.inl q), fun q => ⟨fun r => h2 (Or.inr r), fun r => ?_⟩⟩
  rcases pk_ix a hn with e | e | ⟨i, hi, e⟩
  · exact absurd e q
  · exact absurd e r
  · exact h1 i hi e
theorem w_isIn {n : Nat} {a m : Int32} {σ : Mem} {Q : Int32 → Mem → Prop} {E : String → Mem → Prop} (hn : n < 2 ^ 31) (hm : m = nI n) (h1 : ∀ i : Nat, i < n → a = nI i → Q 1 σ) (h2 : a < 0 ∨ nI n ≤ a → Q 0 σ) : wX13_isIn a 0 (m - 1) σ Q E := by
  subst hm
  unfold wX13_isIn
  refine ⟨fun q => h2 (Or.inl q), fun q => ?_⟩
  obtain ⟨i, hi, rfl⟩ := nI_of q
  cases n with
  | zero =>
    have hz : nI 0 ≤ nI i := nI_le (Nat.zero_le i) hi
    refine ⟨fun _ => h2 (Or.inr hz), fun r => ?_⟩
    refine absurd ?_ r
    rw [Int32.lt_iff_toInt_lt, nI_toInt hi]
    show (-1 : Int) < (i : Int)
    omega
  | succ n =>
    rw [nI_pred]
    by_cases hc : n < i
    · exact ⟨fun _ => h2 (Or.inr (nI_le (by omega) hi)), fun r => absurd (nI_lt hc hi) r⟩
    · exact ⟨fun r => absurd r (nI_nlt (by omega) (by omega)), fun _ => h1 i (by omega) rfl⟩
theorem w_thr0 {v : Int32} {σ : Mem} {Q : Int32 → Mem → Prop} {E : String → Mem → Prop} (h : Q 0 (wr σ 15 0 7 0)) : wX13_isThrown 0 v σ Q E := ⟨fun _ s1 e => by subst e; exact ⟨Or.inl rfl, h⟩, fun q => absurd rfl q⟩
theorem w_thr1 {v : Int32} {σ : Mem} {Q : Int32 → Mem → Prop} {E : String → Mem → Prop} (h : Q 1 (wr σ 15 0 7 v)) : wX13_isThrown 1 v σ Q E := ⟨fun q => absurd q (by decide), fun _ s1 e => by subst e; exact ⟨Or.inr rfl, h⟩⟩
theorem w_get {k n i : Nat} {a : Int32} {σ : Mem} {Q : Int32 → Mem → Prop} {E : String → Mem → Prop} (hk : rd σ 0 k 1 = nI n) (hi : i < n) (hn : n ≤ rowCap k) (ha : a = nI i) (h : Q (rd σ 1 k i) σ) : wX7_get k a σ Q E := by
  have hc : rowCap k ≤ 12 := by
    unfold rowCap
    repeat' split
    all_goals omega
  subst ha
  unfold wX7_get
  rw [hk]
  refine ⟨fun q => absurd q (nI_pos (by omega)), fun _ => ⟨fun q => absurd q (nI_ge hi (by omega)), fun _ => ⟨vp_in_nI (by omega) (by omega), ?_⟩⟩⟩
  rw [nI_clamp (by omega)]
  exact h
theorem w_ofBale {i d : Nat} {a c : Int32} {σ : Mem} {Q : Int32 → Mem → Prop} {E : String → Mem → Prop} (hi : i < 10) (hd : d < 4) (ha : a = nI i) (hc : c = nI d) (h : Q (rd σ 10 8 (14 + 4 * i + d)) σ) : wX13_ofBale a c σ Q E := by
  subst ha
  subst hc
  have e : (14 + (4 * nI i)) + nI d = nI (14 + 4 * i + d) := by rw [show (14 : Int32) = nI 14 from rfl, show (4 : Int32) = nI 4 from rfl, pk_mul, nI_add, nI_add]
  unfold wX13_ofBale
  rw [e, nI_clamp (by omega)]
  exact ⟨vp_in_nI (show 14 + 4 * i + d < 90 by omega) (by decide), h⟩
theorem w_ofOrder {i d : Nat} {a c : Int32} {σ : Mem} {Q : Int32 → Mem → Prop} {E : String → Mem → Prop} (hi : i < 8) (hd : d < 3) (ha : a = nI i) (hc : c = nI d) (h : Q (rd σ 10 8 (54 + 3 * i + d)) σ) : wX13_ofOrder a c σ Q E := by
  subst ha
  subst hc
  have e : (54 + (3 * nI i)) + nI d = nI (54 + 3 * i + d) := by rw [show (54 : Int32) = nI 54 from rfl, show (3 : Int32) = nI 3 from rfl, pk_mul, nI_add, nI_add]
  unfold wX13_ofOrder
  rw [e, nI_clamp (by omega)]
  exact ⟨vp_in_nI (show 54 + 3 * i + d < 90 by omega) (by decide), h⟩
theorem piece_ix {i : Nat} (h : i < 12) : vp_in (78 + nI i) (iaLen 8) ∧ (78 + nI i).toNatClampNeg = 78 + i := by
  rw [show (78 : Int32) = nI 78 from rfl, nI_add, nI_clamp (by omega)]
  exact ⟨vp_in_nI (show 78 + i < 90 by omega) (by decide), rfl⟩
theorem kpThr (σ : Mem) (x : Int64) (v : Int32) : Kp σ (wr (wrL σ x) 15 0 7 v) := Kp.wrL.tr (kp7 _ v)
theorem pC_10 {j : Nat} {σ : Mem} (I : Inv j σ) (a1 : Int32) : wC_10 a1 σ (Inv (j + 1)) := by
  obtain ⟨t, nB, nO, nP, -, F, S⟩ := I.st
  have hB := F.1.1
  unfold wC_10 wL_baleAt wX12_baleAt wX13_baleAt
  refine w_has (k := 0) (n := nB) (by omega) (S.2.1 0 (by decide)) (fun i hi ha => ?_) (fun hb => ?_)
  · refine ⟨fun _ => ?_, fun q => absurd q (by decide)⟩
    refine w_get (k := 0) (S.2.1 0 (by decide)) hi hB ha ?_
    refine w_isIn (n := nB) (by omega) F.1.2.2.2.1 (fun i' hi' ha' => ?_) (fun hb => ?_)
    · refine ⟨fun _ => w_thr0 ⟨fun _ => w_ofBale (i := i) (d := 0) (by omega) (by decide) ha rfl ⟨rfl, fun _ => ?_, I.to (kpThr σ _ 0)⟩, fun q => absurd rfl q⟩, fun q => absurd q (by decide)⟩
      exact congrArg Int32.toInt64 (S.2.2.2.2.1 i hi).1
    · refine absurd hb ?_
      rw [ha]
      rintro (q | q)
      · exact nI_pos (by omega) q
      · exact nI_ge hi (by omega) q
  · refine ⟨fun q => absurd rfl q, fun _ => ⟨rfl, ?_⟩⟩
    refine w_isIn (n := nB) (by omega) F.1.2.2.2.1 (fun i' hi' ha' => ?_) (fun _ => ?_)
    · refine absurd hb ?_
      rw [ha']
      rintro (q | q)
      · exact nI_pos (by omega) q
      · exact nI_ge hi' (by omega) q
    · exact ⟨fun q => absurd rfl q, fun _ => w_thr1 ⟨fun q => absurd q (by decide), fun _ => ⟨rfl, fun q => absurd q (by decide), I.to (kp7 σ 1)⟩⟩⟩
