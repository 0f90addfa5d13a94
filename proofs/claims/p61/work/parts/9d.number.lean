/-! NUMBERS AS TEXT -/
def dN (v : Nat) : Nat := if v < 10 then 1 else if v < 100 then 2 else if v < 1000 then 3 else if v < 10000 then 4 else 5
/-- sign i of a number of d digits -/
def dc (v d i : Nat) : Nat := 48 + v / 10 ^ (d - 1 - i) % 10
theorem dc_b (v d i : Nat) : dc v d i < 128 := by
  unfold dc
  omega
theorem dN_div {v : Nat} (h : 10 ≤ v) (h2 : v < 100000) : dN v = dN (v / 10) + 1 := by
  unfold dN
  repeat' split
  all_goals omega
theorem dN_pos (v : Nat) : 1 ≤ dN v ∧ dN v ≤ 5 := by
  unfold dN
  repeat' split
  all_goals omega
theorem dN_1 {v : Nat} (h : v < 10) : dN v = 1 := if_pos h
theorem dc_div {v d i : Nat} (hi : i < d) : dc (v / 10) d i = dc v (d + 1) i := by
  unfold dc
  rw [Nat.div_div_eq_div_mul, show d + 1 - 1 - i = (d - 1 - i) + 1 by omega, Nat.pow_succ, Nat.mul_comm]
theorem dc_last (v d : Nat) : dc v (d + 1) d = 48 + v % 10 := by
  unfold dc
  rw [show d + 1 - 1 - d = 0 by omega, Nat.pow_zero, Nat.div_one]
/-- only the reference's line changed -/
def FL (σ τ : Mem) : Prop := (∀ f k s : Nat, ¬ (f = 10 ∧ k = 14) → ¬ (f = 15 ∧ k = 0 ∧ s = 14) → rd τ f k s = rd σ f k s) ∧ τ.2 = σ.2
theorem FL.rf (σ : Mem) : FL σ σ := ⟨fun _ _ _ _ _ => rfl, rfl⟩
theorem FL.tr {σ τ u : Mem} (h1 : FL σ τ) (h2 : FL τ u) : FL σ u := ⟨fun f k s n m => (h2.1 f k s n m).trans (h1.1 f k s n m), h2.2.trans h1.2⟩
theorem FL.put {σ : Mem} {n : Nat} {v w : Int32} : FL σ (wr (wr σ 10 14 n v) 15 0 14 w) := ⟨fun f k s n1 n2 => by rw [rd_wr, if_neg (by omega), rd_wr, if_neg (by omega)], rfl⟩
/-- minus a number -/
theorem mI_toInt {v : Nat} (h : v < 2 ^ 30) : (-(nI v)).toInt = -(v : Int) := neg_toInt h
theorem mI_le {a b : Nat} (ha : a < 2 ^ 30) (hb : b < 2 ^ 30) : -(nI a) ≤ -(nI b) ↔ b ≤ a := by
  rw [Int32.le_iff_toInt_le, mI_toInt ha, mI_toInt hb]
  omega
theorem mI_lt {a b : Nat} (ha : a < 2 ^ 30) (hb : b < 2 ^ 30) : -(nI a) < -(nI b) ↔ b < a := by
  rw [Int32.lt_iff_toInt_lt, mI_toInt ha, mI_toInt hb]
  omega
theorem mI_div {a d : Nat} (ha : a < 2 ^ 30) (hd : 0 < d) (hd2 : d < 2 ^ 30) : -(nI a) / nI d = -(nI (a / d)) := by
  have h1 : a / d ≤ a := Nat.div_le_self a d
  refine Int32.toInt_inj.mp ?_
  rw [Int32.toInt_div_of_ne_right _ _ (nI_nm1 (by omega)), mI_toInt ha, mI_toInt (by omega), nI_toInt (by omega), Int.neg_tdiv, Int.ofNat_tdiv]
theorem w_size {v : Nat} {σ : Mem} {Q : Int32 → Mem → Prop} {E : String → Mem → Prop} (hv : v < 100000) (h : Q (nI (dN v)) σ) : wJ6_stringSize_0f7a4 (nI v) σ Q E := by
  have step : ∀ (X : Int32 → Int32 → Mem → Prop) (Y : Int32 → Mem → Prop) (n p i : Nat), p < 2 ^ 26 → i < 10 → (v < p → X 0 (nI i) σ) → (p ≤ v → wJ6_stringSize_0f7a4_16 Q E X Y n (-(nI v)) 0 (-(nI (10 * p))) (nI (i + 1)) σ) → wJ6_stringSize_0f7a4_16 Q E X Y (n + 1) (-(nI v)) 0 (-(nI p)) (nI i) σ := by
    intro X Y n p i hp hi h1 h2
    refine ⟨fun q => absurd (show nI 10 ≤ nI i from q) (nI_ge hi (by decide)), fun _ => ?_⟩
    rw [mI_le (by omega) (by omega)]
    refine ⟨fun q v2 hv2 v3 hv3 => ?_, fun q => h1 (by omega)⟩
    rw [nI_1] at hv3
    have e : v2 = -(nI (10 * p)) := by
      rw [hv2, ← pk_mul]
      show (10 : Int32) * -(nI p) = -(10 * nI p)
      grind
    rw [e, hv3]
    exact h2 q
  unfold wJ6_stringSize_0f7a4
  refine ⟨fun q => absurd q (nI_pos (by omega)), fun _ v0 h0 => ⟨5, ?_⟩⟩
  rw [h0]
  have fin : ∀ i : Nat, dN v = i → Q (nI i + 0) σ := fun i hi => by
    rw [nI_k0, ← hi]
    exact h
  refine step _ _ 4 10 1 (by decide) (by decide) (fun c => fin 1 ?_) (fun c1 => ?_)
  · unfold dN
    rw [if_pos c]
  refine step _ _ 3 100 2 (by decide) (by decide) (fun c => fin 2 ?_) (fun c2 => ?_)
  · unfold dN
    rw [if_neg (by omega), if_pos c]
  refine step _ _ 2 1000 3 (by decide) (by decide) (fun c => fin 3 ?_) (fun c3 => ?_)
  · unfold dN
    rw [if_neg (by omega), if_neg (by omega), if_pos c]
  refine step _ _ 1 10000 4 (by decide) (by decide) (fun c => fin 4 ?_) (fun c4 => ?_)
  · unfold dN
    rw [if_neg (by omega), if_neg (by omega), if_neg (by omega), if_pos c]
  refine step _ _ 0 100000 5 (by decide) (by decide) (fun c => fin 5 ?_) (fun c5 => absurd c5 (by omega))
  unfold dN
  rw [if_neg (by omega), if_neg (by omega), if_neg (by omega), if_neg (by omega)]
theorem dN_100 {v : Nat} (h : 100 ≤ v) (h2 : v < 100000) : dN v = dN (v / 100) + 2 := by
  rw [dN_div (by omega) h2, dN_div (v := v / 10) (by omega) (by omega), Nat.div_div_eq_div_mul]
/-- the class writes the digits from the end p of u on, backwards -/
theorem w_chars {b n : Nat} {v : Nat} {x1 x2 : Int32} {σ : Mem} {Q : Int32 → Mem → Prop} {E : String → Mem → Prop} (hx1 : x1 = nI v) (hv : v < 100000) (W : WB σ b n) (hx2 : x2 = nI (n + dN v)) (hp : n + dN v ≤ σ.2.2.1 b)
    (h : ∀ (τ : Mem) (r : Int32), FX b σ τ → WB τ b n → τ.2.2.1 b = σ.2.2.1 b → (∀ i : Nat, i < n → rd τ 16 b i = rd σ 16 b i) → (∀ i : Nat, i < dN v → rd τ 16 b (n + i) = nI (dc v (dN v) i)) → Q r τ) : wJ6_getChars_ba4f3 b x1 x2 σ Q E := by
  subst hx1
  subst hx2
  have hcap : σ.2.2.1 b ≤ 142 := by have := W.2.2.2.1; omega
  have digO : ∀ r : Nat, r < 100 → vp_nar .byte (digOnes r) = nI (48 + r % 10) := fun r _ => (byte_c (48 + r % 10) (by omega)).2.1
  have digT : ∀ r : Nat, r < 100 → vp_nar .byte (digTens r) = nI (48 + r / 10) := fun r _ => (byte_c (48 + r / 10) (by omega)).2.1
  have loop : ∀ (X : Int32 → Int32 → Int32 → Mem → Prop), (∀ (u p : Nat) (σ' : Mem), u < 100 → p = n + dN u → dN u ≤ dN v → FX b σ σ' → WB σ' b n → σ'.2.2.1 b = σ.2.2.1 b → (∀ i : Nat, i < n → rd σ' 16 b i = rd σ 16 b i) → (∀ i : Nat, dN u ≤ i → i < dN v → rd σ' 16 b (n + i) = nI (dc v (dN v) i)) → (∀ i : Nat, i < dN u → dc u (dN u) i = dc v (dN v) i) → X (-(nI u)) (nI p) 0 σ') →
      ∀ (m u p : Nat) (σ' : Mem), u < 100 ^ (m + 1) → u < 100000 → p = n + dN u → dN u ≤ dN v → FX b σ σ' → WB σ' b n → σ'.2.2.1 b = σ.2.2.1 b → (∀ i : Nat, i < n → rd σ' 16 b i = rd σ 16 b i) → (∀ i : Nat, dN u ≤ i → i < dN v → rd σ' 16 b (n + i) = nI (dc v (dN v) i)) → (∀ i : Nat, i < dN u → dc u (dN u) i = dc v (dN v) i) → wJ6_getChars_ba4f3_22 b Q E X (m + 1) (-(nI u)) (nI p) 0 σ' := by
    intro X hX m
    induction m with
    | zero =>
      intro u p σ' hu hu2 hpe hle p1 p2 p3 p4 p5 p6
      have hu' : u < 100 := hu
      refine ⟨fun _ => hX u p σ' hu' hpe hle p1 p2 p3 p4 p5 p6, fun q => absurd ?_ q⟩
      show -(nI 100) < -(nI u)
      rw [mI_lt (by omega) (by omega)]
      exact hu'
    | succ m ih =>
      intro u p σ' hu hu2 hpe hle p1 p2 p3 p4 p5 p6
      refine ⟨fun q => ?_, fun q => ?_⟩
      · rw [show (-100 : Int32) = -(nI 100) from rfl, mI_lt (by omega) (by omega)] at q
        exact hX u p σ' q hpe hle p1 p2 p3 p4 p5 p6
      · rw [show (-100 : Int32) = -(nI 100) from rfl, mI_lt (by omega) (by omega)] at q
        have e100 := dN_100 (v := u) (by omega) hu2
        have hd1 := (dN_pos (u / 100)).1
        intro v3 h3 v4 h4 v5 h5
        have e3 : v3 = -(nI (u / 100)) := by
          rw [h3, show (100 : Int32) = nI 100 from rfl, mI_div (by omega) (by decide) (by decide)]
        have e4 : v4 = nI (u % 100) := by
          rw [h4, e3, show (100 : Int32) = nI 100 from rfl]
          have g : -(nI (u / 100)) * nI 100 - -(nI u) = nI u - nI (u / 100) * nI 100 := by grind
          rw [g, pk_mul, pk_sub (by omega)]
          congr 1
          omega
        have e5 : v5 = nI (n + dN (u / 100) + 1) := by
          rw [h5, hpe, e100, show n + (dN (u / 100) + 2) = n + dN (u / 100) + 1 + 1 by omega, pk_m1]
        have hr : u % 100 < 100 := Nat.mod_lt _ (by decide)
        rw [e3, e4, e5, nI_clamp (by omega), nI_clamp (by omega), digO _ hr, digT _ hr]
        have hpos : n + dN (u / 100) + 2 ≤ σ'.2.2.1 b := by rw [p3]; omega
        have hcap' : σ'.2.2.1 b ≤ 142 := by rw [p3]; exact hcap
        refine ⟨vp_in_nI hr (by decide), vp_in_nI (by omega) (by omega), fun s5 g5 v6 h6 => ?_⟩
        rw [pk_m1] at h6
        subst h6
        have P5 := w_put16 (b := b) (p := n + dN (u / 100) + 1) (show 48 + u % 100 % 10 < 128 by omega) rfl p2
        rw [← g5] at P5
        have c5 : s5.2.2.1 b = σ'.2.2.1 b := by rw [g5]; rfl
        rw [nI_clamp (by omega)]
        refine ⟨vp_in_nI hr (by decide), vp_in_nI (by rw [c5]; omega) (by rw [c5]; omega), fun s7 g7 => ?_⟩
        have P7 := w_put16 (b := b) (p := n + dN (u / 100)) (show 48 + u % 100 / 10 < 128 by omega) rfl P5.2
        rw [← g7] at P7
        have c7 : s7.2.2.1 b = σ.2.2.1 b := by rw [g7]; exact c5.trans p3
        have dcu : ∀ i : Nat, i < dN (u / 100) → dc (u / 100) (dN (u / 100)) i = dc u (dN u) i := fun i hi => by
          have a1 := dc_div (v := u) (d := dN (u / 100) + 1) (i := i) (by omega)
          have a2 := dc_div (v := u / 10) (d := dN (u / 100)) (i := i) hi
          rw [Nat.div_div_eq_div_mul] at a2
          rw [e100]
          exact a2.trans a1
        refine ih (u / 100) _ s7 (by rw [Nat.pow_succ] at hu; omega) (by omega) rfl (by omega) (p1.tr (P5.1.tr P7.1)) P7.2 c7 (fun i hi => ?_) (fun i hi1 hi2 => ?_) (fun i hi => (dcu i hi).trans (p6 i (by omega)))
        · rw [g7, rd_wr, if_neg (by omega), g5, rd_wr, if_neg (by omega)]
          exact p4 i hi
        · by_cases c1 : i = dN (u / 100)
          · rw [c1, g7, rd_wr, if_pos ⟨rfl, rfl, rfl⟩, ← p6 _ (by omega), e100]
            have a1 := dc_div (v := u) (d := dN (u / 100) + 1) (i := dN (u / 100)) (by omega)
            rw [← a1, dc_last]
            congr 1
            omega
          · by_cases c2 : i = dN (u / 100) + 1
            · rw [c2, g7, rd_wr, if_neg (by omega), g5, rd_wr, if_pos ⟨rfl, rfl, by omega⟩, ← p6 _ (by omega), e100, dc_last]
              congr 1
              omega
            · rw [g7, rd_wr, if_neg (by omega), g5, rd_wr, if_neg (by omega)]
              exact p5 i (by omega) hi2
  unfold wJ6_getChars_ba4f3
  refine ⟨fun _ v0 h0 => ?_, fun q => absurd (nI_pos' (by omega)) q⟩
  rw [h0]
  refine ⟨3, loop _ (fun u p σ' hu hpe hle p1 p2 p3 p4 p5 p6 v5 h5 => ?_) 2 v (n + dN v) σ (by omega) hv rfl (Nat.le_refl _) (FX.rf b σ) W rfl (fun _ _ => rfl) (fun i h1 h2 => absurd h2 (by omega)) (fun _ _ => rfl)⟩
  have hd := dN_pos u
  have eneg : -(-(nI u)) = nI u := by grind
  have e5 : v5 = nI (n + (dN u - 1)) := by
    rw [h5, hpe, show n + dN u = n + (dN u - 1) + 1 by omega, pk_m1]
  have hcap' : σ'.2.2.1 b ≤ 142 := by rw [p3]; exact hcap
  rw [eneg, e5, nI_clamp (by omega), nI_clamp (by omega), digO u hu, digT u hu]
  refine ⟨vp_in_nI hu (by decide), vp_in_nI (by rw [p3]; omega) (by omega), fun s13 g13 => ?_⟩
  have P := w_put16 (b := b) (p := n + (dN u - 1)) (show 48 + u % 10 < 128 by omega) rfl p2
  rw [← g13] at P
  have c13 : s13.2.2.1 b = σ.2.2.1 b := by rw [g13]; exact p3
  have last : dc v (dN v) (dN u - 1) = 48 + u % 10 := by
    rw [← p6 (dN u - 1) (by omega)]
    have := dc_last u (dN u - 1)
    rw [show dN u - 1 + 1 = dN u by omega] at this
    exact this
  rw [show (-9 : Int32) = -(nI 9) from rfl, mI_le (by omega) (by omega)]
  refine ⟨fun c => ⟨fun _ => ?_, fun q => absurd rfl q⟩, fun c v6 h6 => ?_⟩
  · have d1 : dN u = 1 := dN_1 (by omega)
    refine h s13 _ (p1.tr P.1) P.2 c13 (fun i hi => ?_) (fun i hi => ?_)
    · rw [g13, rd_wr, if_neg (by omega)]
      exact p4 i hi
    · rw [g13, rd_wr]
      by_cases c1 : i = dN u - 1
      · rw [if_pos ⟨rfl, rfl, by omega⟩, c1, last]
      · rw [if_neg (by omega)]
        exact p5 i (by omega) hi
  · have d2 : dN u = 2 := by
      unfold dN
      rw [if_neg (by omega), if_pos hu]
    rw [show n + (dN u - 1) = n + 1 by omega, pk_m1] at h6
    subst h6
    rw [nI_clamp (by omega)]
    refine ⟨vp_in_nI hu (by decide), vp_in_nI (by rw [c13]; omega) (by rw [c13]; omega), fun s17 g17 => ⟨fun _ => ?_, fun q => absurd rfl q⟩⟩
    have P2 := w_put16 (b := b) (p := n) (show 48 + u / 10 < 128 by omega) rfl P.2
    rw [← g17] at P2
    refine h s17 _ (p1.tr (P.1.tr P2.1)) P2.2 (by rw [g17]; exact c13) (fun i hi => ?_) (fun i hi => ?_)
    · rw [g17, rd_wr, if_neg (by omega), g13, rd_wr, if_neg (by omega)]
      exact p4 i hi
    · by_cases c0 : i = 0
      · rw [g17, rd_wr, if_pos ⟨rfl, rfl, by omega⟩, c0, ← p6 0 (by omega), d2]
        unfold dc
        rw [show 2 - 1 - 0 = 1 from rfl, Nat.pow_one]
        congr 1
        omega
      · rw [g17, rd_wr, if_neg (by omega), g13, rd_wr]
        by_cases c1 : i = dN u - 1
        · rw [if_pos ⟨rfl, rfl, by omega⟩, c1, last]
        · rw [if_neg (by omega)]
          exact p5 i (by omega) hi
theorem w_appI {b n v : Nat} {x : Int32} {σ : Mem} {Q : Mem → Prop} {E : String → Mem → Prop} (W : WB σ b n) (hx : x = nI v) (hv : v < 100000) (hn : n + dN v ≤ 90) (h : ∀ τ : Mem, FX b σ τ → WB τ b (n + dN v) → (∀ i : Nat, i < n → rd τ 16 b i = rd σ 16 b i) → (∀ i : Nat, i < dN v → rd τ 16 b (n + i) = nI (dc v (dN v) i)) → Q τ) : wJ4_append_bf812 b x σ Q E := by
  subst hx
  have hd := dN_pos v
  unfold wJ4_append_bf812 wJ5_append_c97b9
  intro v2 h2
  refine w_size hv ⟨rfl, fun v3 h3 => ?_⟩
  rw [h2, W.2.1, nI_add] at h3
  refine w_ens W (m := n + dN v) h3 (by omega) (by omega) hn (fun τ t1 t2 t3 t4 => ?_)
  refine ⟨fun q => absurd t2.1 q, fun _ => ⟨rfl, fun q => absurd q (by decide), fun _ => ?_⟩⟩
  refine w_chars rfl hv t2 h3 t3 (fun y r y1 y2 y3 y4 y5 s11 g11 => ?_)
  have L := w_len13 (b := b) (m := n + dN v) h3 (by rw [y3]; exact t3) y2
  rw [← g11] at L
  refine h s11 (t1.tr (y1.tr L.1)) L.2 (fun i hi => ?_) (fun i hi => ?_)
  · rw [g11, rd_wr, if_neg (by omega), y4 i hi, t4 i hi]
  · rw [g11, rd_wr, if_neg (by omega), y5 i hi]
