/-! A SCRIPT READ: the reference -/
def Sgs (n : Nat) (a : Nat → Int32) : Prop := n ≤ 60 ∧ (∀ p : Nat, p < n → a p = nI (sg n a p) ∧ sg n a p < 128) ∧ ∀ p : Nat, sg n a p ≤ 200
theorem Txt.sgs {σ : Mem} {n : Nat} {a : Nat → Int32} (T : Txt σ 0 n a) (hn : n ≤ 60) : Sgs n a := ⟨hn, fun _ hp => (sg_in T hp).2, fun p => sg_200 T p⟩
/-- the reference stands at p -/
def RS (n : Nat) (a : Nat → Int32) (p : Nat) (σ : Mem) : Prop := rd σ 10 15 = a ∧ rd σ 15 0 17 = nI n ∧ rd σ 15 0 18 = nI p
/-- only the place changed -/
def F18 (σ τ : Mem) : Prop := (∀ f k q : Nat, ¬ (f = 15 ∧ k = 0 ∧ q = 18) → rd τ f k q = rd σ f k q) ∧ τ.2 = σ.2
theorem F18.wr (σ : Mem) (v : Int32) : F18 σ (wr σ 15 0 18 v) := ⟨fun f k q h => by rw [rd_wr, if_neg h], wr_2 _ _ _ _ _⟩
theorem F18.tr {σ τ u : Mem} (h1 : F18 σ τ) (h2 : F18 τ u) : F18 σ u := ⟨fun f k q n => (h2.1 f k q n).trans (h1.1 f k q n), h2.2.trans h1.2⟩
theorem RS.to {n p p' : Nat} {a : Nat → Int32} {σ τ : Mem} (h : RS n a p σ) (g : ∀ f k q : Nat, (f = 10 ∧ k = 15) ∨ (f = 15 ∧ q = 17) → rd τ f k q = rd σ f k q) (e : rd τ 15 0 18 = nI p') : RS n a p' τ :=
  ⟨(funext fun q => g 10 15 q (Or.inl ⟨rfl, rfl⟩)).trans h.1, (g 15 0 17 (Or.inr ⟨rfl, rfl⟩)).trans h.2.1, e⟩
theorem w_now {n p : Nat} {a : Nat → Int32} {σ : Mem} {Q : Int32 → Mem → Prop} {E : String → Mem → Prop} (S : Sgs n a) (R : RS n a p σ) (hp : p ≤ 1000) (h0 : ¬ p < n → Q (-1) σ) (h1 : p < n → Q (nI (sg n a p)) σ) : wX13_now σ Q E := by
  obtain ⟨r1, r2, r3⟩ := R
  obtain ⟨hn, hs, -⟩ := S
  unfold wX13_now
  rw [r1, r2, r3, nI_leI (by omega) (by omega)]
  refine ⟨fun q => h0 (by omega), fun q => ⟨vp_in_nI (show p < 60 by omega) (by decide), ?_⟩⟩
  rw [nI_clamp (by omega), (hs p (by omega)).1]
  exact h1 (by omega)
theorem w_rSign {n p v : Nat} {a : Nat → Int32} {σ : Mem} {Q : Int32 → Mem → Prop} {E : String → Mem → Prop} (S : Sgs n a) (R : RS n a p σ) (hp : p ≤ 1000) (hv : v < 128) (h0 : ¬ sg n a p = v → Q 0 (wr σ 15 0 18 (nI p))) (h1 : sg n a p = v → Q 1 (wr σ 15 0 18 (nI (p + 1)))) : wX13_isSign (nI v) σ Q E := by
  have r3 := R.2.2
  have h200 := S.2.2 p
  unfold wX13_isSign
  refine w_now S R hp (fun c => ⟨fun _ s hs => ?_, fun z => absurd z.symm (nI_nm1 (by omega))⟩) (fun c => ⟨fun z s hs => ?_, fun z s hs => ?_⟩)
  · rw [r3, nI_k0] at hs
    subst hs
    exact h0 (by rw [sg_out c]; omega)
  · rw [r3, nI_k0] at hs
    subst hs
    exact h0 (fun e => z (by rw [e]))
  · rw [r3, nI_1] at hs
    subst hs
    rw [nI_eq (by omega) (by omega)] at z
    exact h1 z
/-- the reference's own parts of words -/
def rw9 : Nat → List Nat
  | 10 => [108, 101]
  | 11 => [108, 101, 110, 100]
  | 12 => [108, 108]
  | 13 => [110]
  | 14 => [108, 105, 99, 101]
  | 15 => [114, 100, 101, 114]
  | 16 => [97, 110, 99, 101, 108]
  | 17 => [97, 99, 104, 105, 110, 101, 115]
  | 18 => [111, 105, 110]
  | _ => []
theorem rwords_c : ∀ j : Nat, j < 19 → 10 ≤ j → stLen.getD j 0 = (rw9 j).length ∧ (∀ q : Nat, q < (rw9 j).length → (stByt.getD j []).getD q 0 = nI ((rw9 j).getD q 0) ∧ (rw9 j).getD q 0 < 128) ∧ (rw9 j).length < 10 := by decide +kernel
theorem w_rWord {n p j : Nat} {a : Nat → Int32} {σ : Mem} {Q : Int32 → Mem → Prop} {E : String → Mem → Prop} (S : Sgs n a) (R : RS n a p σ) (hp : p ≤ 900) (hj : j < 19) (hj2 : 10 ≤ j)
    (h : ∀ τ : Mem, F18 σ τ → rd τ 15 0 18 = nI (p + lc (sg n a) p (rw9 j)) → (lc (sg n a) p (rw9 j) < (rw9 j).length → Q 0 τ) ∧ (lc (sg n a) p (rw9 j) = (rw9 j).length → Q 1 τ)) : wX13_isWord j σ Q E := by
  obtain ⟨c1, c2, c3⟩ := rwords_c j hj hj2
  unfold wX13_isWord
  refine ⟨(rw9 j).length + 1, ?_⟩
  have key : ∀ (u : List Nat) (i : Nat) (y : Mem), i + u.length = (rw9 j).length → (∀ q : Nat, q < u.length → (rw9 j).getD (i + q) 0 = u.getD q 0) → i + lc (sg n a) (p + i) u = lc (sg n a) p (rw9 j) → F18 σ y → rd y 15 0 18 = nI (p + i) → wX13_isWord_2 j Q E (fun (s8 : Mem) => Q 0 s8) (fun (s9 : Mem) => Q 1 s9) (u.length + 1) (nI i) y := by
    intro u
    induction u with
    | nil =>
      intro i y e _ r F f
      have e' : i = (rw9 j).length := e
      have r' : i = lc (sg n a) p (rw9 j) := r
      refine w_wlen c1 ⟨rfl, fun _ => ?_, fun q => absurd ?_ q⟩
      · exact (h y F (by rw [f, ← r'])).2 (by omega)
      · rw [nI_leI (by omega) (by omega)]
        omega
    | cons b u ih =>
      intro i y e g r F f
      rw [List.length_cons] at e
      have hb := g 0 (by rw [List.length_cons]; omega)
      rw [Nat.add_zero] at hb
      have hb2 : (rw9 j).getD i 0 = b := hb
      obtain ⟨d1, d2⟩ := c2 i (by omega)
      rw [hb2] at d1 d2
      have Ry : RS n a (p + i) y := R.to (fun f k q hq => F.1 f k q (by omega)) f
      refine w_wlen c1 ⟨rfl, fun q => ?_, fun _ => ?_⟩
      · rw [nI_leI (by omega) (by omega)] at q
        omega
      refine w_wat c1 (by omega) (by omega) d1 d2 ⟨rfl, ?_⟩
      refine w_rSign S Ry (by omega) d2 (fun ne => ⟨fun z => absurd rfl z, fun _ => ?_⟩) (fun eq => ⟨fun _ v2 hv => ?_, fun z => absurd z (by decide)⟩)
      · rw [lc_ne ne] at r
        have r' : i = lc (sg n a) p (rw9 j) := r
        exact (h _ (F.tr (F18.wr _ _)) (by rw [rd_wr, if_pos ⟨rfl, rfl, rfl⟩, ← r'])).1 (by omega)
      · rw [nI_1] at hv
        subst hv
        rw [lc_eq eq] at r
        refine ih (i + 1) _ (by omega) (fun q hq => ?_) (by rw [show p + (i + 1) = p + i + 1 by omega]; omega) (F.tr (F18.wr _ _)) (by rw [rd_wr, if_pos ⟨rfl, rfl, rfl⟩, show p + (i + 1) = p + i + 1 by omega])
        have := g (q + 1) (by rw [List.length_cons]; omega)
        rw [show i + 1 + q = i + (q + 1) by omega, this]
        rfl
  have f0 : rd σ 15 0 18 = nI (p + 0) := R.2.2
  exact key (rw9 j) 0 σ (Nat.zero_add _) (fun q _ => by rw [Nat.zero_add]) (by rw [Nat.zero_add]; rfl) ⟨fun _ _ _ _ => rfl, rfl⟩ f0
/-- a space and a number -/
theorem w_rNum {n p x D : Nat} {a : Nat → Int32} {σ : Mem} {Q : Int32 → Mem → Prop} {E : String → Mem → Prop} (S : Sgs n a) (R : RS n a p σ) (hp : p ≤ 800) (hD : D ≤ 3) (hx : x < 124)
    (h0 : ∀ τ : Mem, (∀ f k s : Nat, ¬ (f = 15 ∧ k = 0 ∧ s = 18) → ¬ (f = 10 ∧ k = 16 ∧ s = x) → rd τ f k s = rd σ f k s) → τ.2 = σ.2 → (¬ sg n a p = 32 → rd τ 15 0 18 = nI p → Q 0 τ) ∧ (sg n a p = 32 → rd τ 15 0 18 = nI (rdN (sg n a) D (p + 1) 0).2 → ((rdN (sg n a) D (p + 1) 0).2 = p + 1 → Q 0 τ) ∧ (¬ (rdN (sg n a) D (p + 1) 0).2 = p + 1 → rd τ 10 16 x = nI (rdN (sg n a) D (p + 1) 0).1 → Q 1 τ))) : wX13_isSpaced (nI D) (nI x) σ Q E := by
  unfold wX13_isSpaced
  refine w_rSign (v := 32) S R (by omega) (by decide) (fun ne => ⟨fun z => absurd rfl z, fun _ => ?_⟩) (fun e => ⟨fun _ => ⟨D + 1, ?_⟩, fun z => absurd z (by decide)⟩)
  · exact (h0 _ (fun f k s n1 _ => (F18.wr σ (nI p)).1 f k s n1) (wr_2 _ _ _ _ _)).1 ne (by rw [rd_wr, if_pos ⟨rfl, rfl, rfl⟩])
  have key : ∀ (d r v q : Nat) (u : Mem), d + r = D → p + 1 + r = q → rdN (sg n a) d q v = rdN (sg n a) D (p + 1) 0 → F18 σ u → rd u 15 0 18 = nI q → wX13_isSpaced_16 Q E (fun (x2_12 : Int32) (x3_13 : Int32) (x4_14 : Int32) (s15 : Mem) => vp_in x2_12 (iaLen 16) ∧ ∀ s16 : Mem, s16 = wr s15 10 16 x2_12.toNatClampNeg x3_13 → ((x4_14 ≤ 0 → Q 0 s16) ∧ (¬ x4_14 ≤ 0 → Q 1 s16))) (d + 1) (nI D) (nI x) (nI v) (nI r) u := by
    have fin : ∀ (d r v q : Nat) (u : Mem), d + r = D → p + 1 + r = q → rdN (sg n a) D (p + 1) 0 = (v, q) → F18 σ u → rd u 15 0 18 = nI q → (vp_in (nI x) (iaLen 16) ∧ ∀ s16 : Mem, s16 = wr u 10 16 (nI x).toNatClampNeg (nI v) → ((nI r ≤ 0 → Q 0 s16) ∧ (¬ nI r ≤ 0 → Q 1 s16))) := by
      intro d r v q u e1 e2 e3 F f
      rw [e3] at h0
      refine ⟨vp_in_nI (show x < 124 from hx) (by decide), fun s hs => ?_⟩
      rw [nI_clamp (by omega)] at hs
      obtain ⟨b1, b2⟩ := (h0 s (fun f k s' n1 n2 => by rw [hs, rd_wr, if_neg n2]; exact F.1 f k s' n1) (by rw [hs, wr_2]; exact F.2)).2 e (by rw [hs, rd_wr, if_neg (by omega)]; exact f)
      rw [show (0 : Int32) = nI 0 from rfl, nI_leI (by omega) (by omega)]
      exact ⟨fun z => b1 (by show q = p + 1; omega), fun z => b2 (by show ¬ q = p + 1; omega) (by rw [hs, rd_wr, if_pos ⟨rfl, rfl, rfl⟩])⟩
    intro d
    induction d with
    | zero =>
      intro r v q u e1 e2 e4 F f
      exact ⟨fun _ => fin 0 r v q u e1 e2 e4.symm F f, fun z => absurd (by rw [nI_leI (by omega) (by omega)]; omega) z⟩
    | succ d ih =>
      intro r v q u e1 e2 e4 F f
      refine ⟨fun z => ?_, fun _ => ?_⟩
      · rw [nI_leI (by omega) (by omega)] at z
        omega
      have Ru : RS n a q u := R.to (fun f k q hq => F.1 f k q (by omega)) f
      have h200 := S.2.2 q
      rw [show rdN (sg n a) (d + 1) q v = if 48 ≤ sg n a q ∧ sg n a q ≤ 57 then rdN (sg n a) d (q + 1) (10 * v + (sg n a q - 48)) else (v, q) from rfl] at e4
      have no : ¬ (48 ≤ sg n a q ∧ sg n a q ≤ 57) → (vp_in (nI x) (iaLen 16) ∧ ∀ s16 : Mem, s16 = wr u 10 16 (nI x).toNatClampNeg (nI v) → ((nI r ≤ 0 → Q 0 s16) ∧ (¬ nI r ≤ 0 → Q 1 s16))) := fun nd => by
        rw [if_neg nd] at e4
        exact fin (d + 1) r v q u e1 e2 e4.symm F f
      refine w_now S Ru (by omega) (fun c => w_in0 (Or.inl (by decide)) ⟨fun _ => no (by rw [sg_out c]; omega), fun z => absurd rfl z⟩) (fun c => ?_)
      have hin : (nI (sg n a q) < 48 ∨ 57 < nI (sg n a q)) ↔ (sg n a q < 48 ∨ 57 < sg n a q) := by
        rw [show (48 : Int32) = nI 48 from rfl, show (57 : Int32) = nI 57 from rfl, nI_ltI (by omega) (by omega), nI_ltI (by omega) (by omega)]
      by_cases dd : 48 ≤ sg n a q ∧ sg n a q ≤ 57
      · refine w_in1 (fun z => by have := hin.mp z; omega) ⟨fun z => absurd z (by decide), fun _ => ?_⟩
        rw [if_pos dd] at e4
        refine w_now S Ru (by omega) (fun z => absurd c z) (fun _ v3 hv3 s10 hs10 v4 hv4 => ?_)
        rw [f, nI_1] at hs10
        rw [nI_1] at hv4
        rw [show (10 : Int32) = nI 10 from rfl, pk_mul, nI_add, show (48 : Int32) = nI 48 from rfl, pk_sub (by omega), show 10 * v + sg n a q - 48 = 10 * v + (sg n a q - 48) by omega] at hv3
        subst hv3 hv4 hs10
        exact ih (r + 1) _ (q + 1) _ (by omega) (by omega) e4 (F.tr (F18.wr _ _)) (by rw [rd_wr, if_pos ⟨rfl, rfl, rfl⟩])
      · exact w_in0 (hin.mpr (by omega)) ⟨fun _ => no dd, fun z => absurd rfl z⟩
  exact key D 0 0 (p + 1) _ rfl rfl rfl (F18.wr _ _) (by rw [rd_wr, if_pos ⟨rfl, rfl, rfl⟩])
/-- what reading numbers from p on ends with -/
def ArgF (k i m D p : Nat) (s : Nat → Nat) (u : Mem) (Q : Int32 → Mem → Prop) : Prop :=
  ∀ τ : Mem, (∀ f k' q : Nat, ¬ (f = 15 ∧ k' = 0 ∧ q = 18) → ¬ (f = 10 ∧ k' = 16 ∧ 4 * k + 1 + i ≤ q ∧ q < 4 * k + 1 + i + m) → rd τ f k' q = rd u f k' q) → τ.2 = u.2 → rd τ 15 0 18 = nI (ag s D m p).2 → ((ag s D m p).1 = false → Q 0 τ) ∧ ((ag s D m p).1 = true → (∀ q : Nat, q < m → rd τ 10 16 (4 * k + 1 + i + q) = nI (av s D q p)) → Q 1 τ)
theorem ArgF.next {k i m D p : Nat} {s : Nat → Nat} {u τ : Mem} {Q : Int32 → Mem → Prop} (A : ArgF k i (m + 1) D p s u Q) (h : s p = 32) (h2 : ¬ (rdN s D (p + 1) 0).2 = p + 1)
    (g : ∀ f k' q : Nat, ¬ (f = 15 ∧ k' = 0 ∧ q = 18) → ¬ (f = 10 ∧ k' = 16 ∧ q = 4 * k + 1 + i) → rd τ f k' q = rd u f k' q) (g2 : τ.2 = u.2) (e : rd τ 10 16 (4 * k + 1 + i) = nI (rdN s D (p + 1) 0).1) : ArgF k (i + 1) m D (rdN s D (p + 1) 0).2 s τ Q := by
  intro y y1 y2 y3
  unfold ArgF at A
  rw [ag_s h h2] at A
  obtain ⟨b1, b2⟩ := A y (fun f k' q n1 n2 => (y1 f k' q n1 (by omega)).trans (g f k' q n1 (by omega))) (y2.trans g2) y3
  refine ⟨b1, fun c d => b2 c (fun q hq => ?_)⟩
  cases q with
  | zero =>
    rw [Nat.add_zero, y1 10 16 _ (by omega) (by omega)]
    exact e
  | succ q =>
    rw [show 4 * k + 1 + i + (q + 1) = 4 * k + 1 + (i + 1) + q by omega]
    exact d q (by omega)
theorem ArgF.done {k i D p : Nat} {s : Nat → Nat} {u : Mem} {Q : Int32 → Mem → Prop} (A : ArgF k i 0 D p s u Q) (h : rd u 15 0 18 = nI p) : Q 1 u :=
  (A u (fun _ _ _ _ _ => rfl) rfl h).2 rfl (fun q hq => absurd hq (Nat.not_lt_zero _))
/-- one number of several -/
theorem w_rArg {n k i m D p : Nat} {x d : Int32} {a : Nat → Int32} {σ : Mem} {Q : Int32 → Mem → Prop} {E : String → Mem → Prop} {Y : Mem → Prop} (S : Sgs n a) (R : RS n a p σ) (hp : p ≤ 800) (hD : D ≤ 3) (hd : d = nI D) (hx : 4 * k + 1 + i < 124) (hx2 : x = nI (4 * k + 1 + i)) (A : ArgF k i (m + 1) D p (sg n a) σ Q)
    (h : ∀ (p' : Nat) (τ : Mem), p' ≤ p + 4 → RS n a p' τ → ArgF k (i + 1) m D p' (sg n a) τ Q → Y τ) : wX13_isSpaced d x σ (fun (r : Int32) (s : Mem) => ((r = 0 → Q 0 s) ∧ (¬ r = 0 → Y s))) E := by
  subst hd hx2
  refine w_rNum S R hp hD hx (fun τ t1 t2 => ⟨fun ne t3 => ⟨fun _ => ?_, fun z => absurd rfl z⟩, fun e t3 => ⟨fun z => ⟨fun _ => ?_, fun z => absurd rfl z⟩, fun z v => ⟨fun y => absurd y (by decide), fun _ => ?_⟩⟩⟩)
  · exact (A τ (fun f k' q n1 n2 => t1 f k' q n1 (by omega)) t2 (by rw [ag_n ne]; exact t3)).1 (by rw [ag_n ne])
  · exact (A τ (fun f k' q n1 n2 => t1 f k' q n1 (by omega)) t2 (by rw [ag_e e z, t3, z])).1 (by rw [ag_e e z])
  · have := rdN_end (sg n a) D (p + 1) 0
    exact h _ τ (by omega) (R.to (fun f k' q hq => t1 f k' q (by omega) (by omega)) t3) (A.next e z t1 t2 v)
