/-! A SCRIPT RUN, THE CLASS'S SIDE -/
theorem all_ops {c t nB nO nP : Nat} {a : Nat → Int32} (hc : c < 9) (ht : t ≤ 512) (X : Nat → Int32) (hX : ∀ q : Nat, nn c ≤ q → X q = 0) (F : Fits t nB nO nP a) (G : Srt t nB nO a) :
    ∃ L : List Nat, (∀ x ∈ L, 1 ≤ x ∧ x ≤ 5) ∧ Ch c (X 0) (X 1) (X 2) L t nB nO nP a := by
  rcases c with _ | _ | _ | _ | _ | _ | _ | _ | _ | c
  all_goals first | (exfalso; omega) | skip
  · exact ⟨_, by decide, op_0 (X 0) (X 1) (X 2) ht F G⟩
  · rw [hX 2 (by decide)]
    exact ⟨_, by decide, op_1 (X 0) (X 1) ht F G⟩
  · rw [hX 2 (by decide)]
    exact ⟨_, by decide, op_2 (X 0) (X 1) ht F G⟩
  · rw [hX 1 (by decide), hX 2 (by decide)]
    exact ⟨_, by decide, op_3 (X 0) ht F G⟩
  · rw [hX 1 (by decide), hX 2 (by decide)]
    exact ⟨_, by decide, op_4 (X 0) ht F G⟩
  · rw [hX 1 (by decide), hX 2 (by decide)]
    exact ⟨_, by decide, op_5 (X 0) ht F G⟩
  · rw [hX 1 (by decide), hX 2 (by decide)]
    exact ⟨_, by decide, op_6 (X 0) ht F G⟩
  · rw [hX 0 (by decide), hX 1 (by decide), hX 2 (by decide)]
    exact ⟨_, by decide, op_7 ht F G⟩
  · rw [hX 1 (by decide), hX 2 (by decide)]
    exact ⟨_, by decide, op_8 (X 0) ht F G⟩
/-- the commands from the i-th on are all carried out -/
def Rd (C : Nat → Nat) (X : Nat → Nat → Int32) : Nat → Nat → Nat → Nat → Nat → (Nat → Int32) → Nat → Nat → Nat → (Nat → Int32) → Prop
  | 0, _, nB, nO, nP, a, nB', nO', nP', a' => nB = nB' ∧ nO = nO' ∧ nP = nP' ∧ a = a'
  | d + 1, i, nB, nO, nP, a, nB', nO', nP', a' => ∃ (m1 m2 m3 : Nat) (b : Nat → Int32) (v : Int32), ChD (C i) (X i 0) (X i 1) (X i 2) nB nO nP a m1 m2 m3 b v ∧ Rd C X d (i + 1) m1 m2 m3 b nB' nO' nP' a'
/-- the m-th command is the first that is refused -/
def Rf (C : Nat → Nat) (X : Nat → Nat → Int32) : Nat → Nat → Nat → Nat → Nat → (Nat → Int32) → Nat → Prop
  | 0, _, _, _, _, _, _ => False
  | d + 1, i, nB, nO, nP, a, m => (m = i ∧ ∃ r : Nat, (1 ≤ r ∧ r ≤ 5) ∧ ChR (C i) (X i 0) (X i 1) (X i 2) nB nO nP a r) ∨ ∃ (m1 m2 m3 : Nat) (b : Nat → Int32) (v : Int32), ChD (C i) (X i 0) (X i 1) (X i 2) nB nO nP a m1 m2 m3 b v ∧ Rf C X d (i + 1) m1 m2 m3 b m
theorem trace {C : Nat → Nat} {X : Nat → Nat → Int32} : ∀ (d i t nB nO nP : Nat) (a : Nat → Int32), t + d ≤ 513 → Fits t nB nO nP a → Srt t nB nO a → (∀ i' : Nat, i' < i + d → C i' < 9 ∧ ∀ q : Nat, nn (C i') ≤ q → X i' q = 0) →
    (∃ (nB' nO' nP' : Nat) (a' : Nat → Int32), Fits (t + d) nB' nO' nP' a' ∧ Srt (t + d) nB' nO' a' ∧ Rd C X d i nB nO nP a nB' nO' nP' a') ∨ ∃ m : Nat, m < i + d ∧ Rf C X d i nB nO nP a m := by
  intro d
  induction d with
  | zero => intro i t nB nO nP a _ F G _; exact Or.inl ⟨nB, nO, nP, a, F, G, rfl, rfl, rfl, rfl⟩
  | succ d ih =>
    intro i t nB nO nP a ht F G hC
    obtain ⟨c1, c2⟩ := hC i (by omega)
    obtain ⟨L, hL, ch⟩ := all_ops c1 (by omega) (X i) c2 F G
    rcases ch with ⟨r, hm, hR⟩ | ⟨m1, m2, m3, b, v, ⟨F', G', -⟩, hD⟩
    · exact Or.inr ⟨i, by omega, Or.inl ⟨rfl, r, hL _ hm, hR⟩⟩
    · rcases ih (i + 1) (t + 1) m1 m2 m3 b (by omega) F' G' (fun i' hi' => hC i' (by omega)) with ⟨w1, w2, w3, w4, F2, G2, R⟩ | ⟨m, hm, R⟩
      · rw [show t + 1 + d = t + (d + 1) by omega] at F2 G2
        exact Or.inl ⟨w1, w2, w3, w4, F2, G2, m1, m2, m3, b, v, hD, R⟩
      · exact Or.inr ⟨m, by omega, Or.inr ⟨m1, m2, m3, b, v, hD, R⟩⟩
theorem w_runD {C : Nat → Nat} {X : Nat → Nat → Int32} {N : Nat} {Q : Int32 → Mem → Prop} {E : String → Mem → Prop} (hN : N ≤ 13) : ∀ (d i nB nO nP : Nat) (a : Nat → Int32) (nB' nO' nP' : Nat) (a' : Nat → Int32) (u : Mem), d + i = N → Rd C X d i nB nO nP a nB' nO' nP' a' → KC C X N u → Same u 0 nB nO nP a → Zer u →
    (∀ τ : Mem, FrC u τ → Same τ 0 nB' nO' nP' a' → Q (-1) τ) → wX12_runCommands_2 Q E (fun x s => Q x s) (fun s => Q (-1) s) (d + 1) (nI i) u := by
  intro d
  induction d with
  | zero =>
    intro i nB nO nP a nB' nO' nP' a' u e R K S Z h
    obtain ⟨rfl, rfl, rfl, rfl⟩ := R
    show wX8_count u _ E
    unfold wX8_count
    rw [K.1]
    refine ⟨fun _ => h u (FrC.rf u) S, fun z => absurd ?_ z⟩
    rw [nI_leI (by omega) (by omega)]
    omega
  | succ d ih =>
    intro i nB nO nP a nB' nO' nP' a' u e R K S Z h
    obtain ⟨m1, m2, m3, b, v, ⟨hC, hD⟩, R'⟩ := R
    have c3 := (K.2 i (by omega)).2.2
    refine w_oneC hN (by omega) K (hC u _ _ S Z (fun τ u1 => ⟨fun _ => ?_, fun z => absurd rfl z⟩))
    refine st_car (K.2 i (by omega)).1 (fun z => (c3 0 z).symm) (fun z => (c3 1 z).symm) (fun z => (c3 2 z).symm) (hD τ _ _ (u1.same (by decide) S) (Z.to u1.c) (fun z z1 z2 => ?_))
    have uz := u1.c.tr z1
    exact ih (i + 1) m1 m2 m3 b nB' nO' nP' a' z (by omega) R' (K.to uz) z2 (Z.to uz) (fun y y1 y2 => h y (uz.tr y1) y2)
theorem w_runF {C : Nat → Nat} {X : Nat → Nat → Int32} {N m : Nat} {Q : Int32 → Mem → Prop} {E : String → Mem → Prop} (hN : N ≤ 13) : ∀ (d i nB nO nP : Nat) (a : Nat → Int32) (u : Mem), d + i = N → Rf C X d i nB nO nP a m → KC C X N u → Same u 0 nB nO nP a → Zer u →
    (∀ τ : Mem, FrC u τ → Q (nI m) τ) → wX12_runCommands_2 Q E (fun x s => Q x s) (fun s => Q (-1) s) (d + 1) (nI i) u := by
  intro d
  induction d with
  | zero => intro i nB nO nP a u e R; exact R.elim
  | succ d ih =>
    intro i nB nO nP a u e R K S Z h
    rcases R with ⟨rfl, r, hr, hC⟩ | ⟨m1, m2, m3, b, v, ⟨hC, hD⟩, R'⟩
    · exact w_oneC hN (by omega) K (hC u _ _ S Z (fun τ u1 => ⟨fun z => by omega, fun _ => h τ u1.c⟩))
    · have c3 := (K.2 i (by omega)).2.2
      refine w_oneC hN (by omega) K (hC u _ _ S Z (fun τ u1 => ⟨fun _ => ?_, fun z => absurd rfl z⟩))
      refine st_car (K.2 i (by omega)).1 (fun z => (c3 0 z).symm) (fun z => (c3 1 z).symm) (fun z => (c3 2 z).symm) (hD τ _ _ (u1.same (by decide) S) (Z.to u1.c) (fun z z1 z2 => ?_))
      have uz := u1.c.tr z1
      exact ih (i + 1) m1 m2 m3 b z (by omega) R' (K.to uz) z2 (Z.to uz) (fun y y1 => h y (uz.tr y1))
theorem l_run {t nC nx nB nO nP nT : Nat} {a b0 : Nat → Int32} {σ : Mem} (I : J t nC nx nB nO nP a σ) (T : Txt σ 0 nT b0) (hn : nT ≤ 60) (ht : t + nT ≤ 512) {Q : Int32 → Mem → Prop} {E : String → Mem → Prop}
    (hR : ∀ (r : Int32) (τ : Mem), Ref r → J t nC nx nB nO nP a τ → Ps σ τ → Sg τ → Q r τ)
    (hD : ∀ (τ : Mem) (v : Int32) (t' nB' nO' nP' : Nat) (a' : Nat → Int32), t ≤ t' → t' ≤ t + nT → An v → J t' (cN nC) ((nx + 1) % 8) nB' nO' nP' a' τ → Same τ (3 + nx) nB nO nP a → Ps σ τ → Sg τ → Q v τ) : wL_runScript σ Q E := by
  obtain ⟨⟨hc8, hx8, ht5⟩, F, G, S, ⟨h4, h5⟩, hZ⟩ := I
  have hB := F.1.1
  have hO := F.1.2.1
  have hP := F.1.2.2.1
  obtain ⟨K, k1, k2⟩ := last_cm hn b0
  have hK := ps_k hn k1
  obtain ⟨s, hs⟩ : ∃ s, s = sg nT b0 := ⟨_, rfl⟩
  have hce := cm_end s (ps s K)
  have hpb := ps_b K k1
  rw [← hs] at k1 k2 hK hpb
  unfold wL_runScript wX12_runScript
  refine w_form T hn (hs ▸ k1) (hs ▸ k2) (fun τ t1 t2 => ?_)
  rw [← hs]
  have Tτ : Txt τ 0 nT b0 := T.rd (fun f k q hf => t1 f k q (by omega)) t2
  refine ⟨fun nof => ?_, fun okf c3 cc => ?_⟩
  · -- not of the form
    refine w_setLenE Tτ.wb (fun z z1 z2 z3 => ⟨fun q => absurd q (nI_nm1 (by omega)), fun _ s16 hs16 => Or.inl ⟨rfl, ?_⟩⟩)
    have g16 : ∀ f k' q : Nat, ¬ (f = 11 ∨ f = 12 ∨ (f = 10 ∧ k' = 7)) → ¬ (f = 13 ∧ k' = 0) → ¬ (f = 14 ∧ k' = 0 ∧ q = 11) → rd s16 f k' q = rd σ f k' q := fun f k' q n1 n2 n3 => by
      rw [hs16, rd_wr, if_neg n3, z1 f k' q n2, t1 f k' q n1]
    have e16 : s16.2 = σ.2 := by rw [hs16, wr_2, z2, t2]
    refine hR _ s16 ref1 ⟨⟨hc8, hx8, ht5⟩, F, G, S.on (fun f k' q hh => g16 f k' q (by unfold SIn at hh; omega) (by unfold SIn at hh; omega) (by unfold SIn at hh; omega)), ⟨(g16 5 0 1 (by omega) (by omega) (by omega)).trans h4, (g16 5 0 2 (by omega) (by omega) (by omega)).trans h5⟩, fun k hk => (g16 10 k 0 (by omega) (by omega) (by omega)).trans (hZ.1 k hk), fun m hm => (g16 10 12 m (by omega) (by omega) (by omega)).trans (hZ.2 m hm)⟩ ⟨fun f k q hp => g16 f k q (by unfold pst SIn at hp; omega) (by unfold pst SIn at hp; omega) (by unfold pst SIn at hp; omega), by rw [e16]⟩ (Txt.mk (z3.to (fun f q hf => ?_) (by rw [e16, z2, t2])) (fun i hi => absurd hi (Nat.not_lt_zero _)))
    rw [hs16, rd_wr, if_neg (by omega)]
  -- of the form: the commands
  obtain ⟨o1, o2⟩ := okf
  have hlen := (hce.2.2 o1).2
  have hKn : K + 1 ≤ nT := by omega
  obtain ⟨C, hC⟩ : ∃ C : Nat → Nat, C = fun i => wn s (ps s i) := ⟨_, rfl⟩
  obtain ⟨X, hX⟩ : ∃ X : Nat → Nat → Int32, X = fun i q => if q < nn (C i) then nI (av s (dg (C i)) q (ps s i + (wt (C i)).length)) else 0 := ⟨_, rfl⟩
  have Ce : ∀ i : Nat, C i = wn s (ps s i) := fun i => by rw [hC]
  have Xe : ∀ i q : Nat, q < nn (C i) → X i q = nI (av s (dg (C i)) q (ps s i + (wt (C i)).length)) := fun i q h => by rw [hX]; exact if_pos h
  have Xz : ∀ i q : Nat, nn (C i) ≤ q → X i q = 0 := fun i q h => by rw [hX]; exact if_neg (by omega)
  have C9 : ∀ i : Nat, i < K + 1 → C i < 9 := fun i hi => by rw [Ce]; exact (cc i (by omega)).1
  refine w_setLenE Tτ.wb (fun z z1 z2 z3 => ⟨fun _ => ?_, fun q => absurd rfl q⟩)
  have gz : ∀ f k' q : Nat, ¬ (f = 11 ∨ f = 12 ∨ (f = 10 ∧ k' = 7)) → ¬ (f = 13 ∧ k' = 0) → rd z f k' q = rd σ f k' q := fun f k' q n1 n2 => (z1 f k' q n2).trans (t1 f k' q n1)
  have Sz : Same z 0 nB nO nP a := S.on fun f k' q hh => gz f k' q (by unfold SIn at hh; omega) (by unfold SIn at hh; omega)
  refine w_stk (k := 1) (k2 := 0) (by decide) (by decide) (by decide) hB hO hP Sz (fun y y1 y2 y3 => ?_)
  have Sy : Same y 0 nB nO nP a := Sz.on fun f k' q hh => y1 f k' q (by unfold SIn at hh ⊢; omega)
  have KCy : KC C X (K + 1) y := by
    refine ⟨?_, fun i hi => ⟨C9 i hi, ?_, fun q hq => ?_⟩⟩
    · rw [y1 11 0 3 (by unfold SIn; omega), z1 11 0 3 (by omega)]
      exact c3
    · rw [y1 12 0 i (by unfold SIn; omega), z1 12 0 i (by omega), Ce]
      exact (cc i (by omega)).2.1
    · rw [y1 10 7 _ (by unfold SIn; omega), z1 10 7 _ (by omega), Xe i q hq]
      rw [Ce] at hq ⊢
      exact (cc i (by omega)).2.2 q hq
  have Zy : Zer y := ⟨fun k hk => by rw [y1 10 k 0 (by unfold SIn; omega), gz 10 k 0 (by omega) (by omega)]; exact hZ.1 k hk, fun m hm => by rw [y1 10 12 m (by unfold SIn; omega), gz 10 12 m (by omega) (by omega)]; exact hZ.2 m hm⟩
  refine ⟨K + 1 + 1, ?_⟩
  rcases trace (C := C) (X := X) (K + 1) 0 t nB nO nP a (by omega) F G (fun i' hi' => ⟨C9 i' (by omega), Xz i'⟩) with ⟨mB, mO, mP, a', F', G', R⟩ | ⟨m, hm, R⟩
  · refine w_runD (N := K + 1) (by omega) (K + 1) 0 nB nO nP _ mB mO mP a' y rfl R KCy Sy Zy (fun w w1 w2 => ⟨fun _ => ?_, fun q => absurd rfl q⟩)
    have gw : ∀ f k' q : Nat, ¬ (f = 11 ∨ f = 12 ∨ (f = 10 ∧ k' = 7)) → ¬ (f = 13 ∧ k' = 0) → ¬ SIn 0 f k' → ¬ SIn 1 f k' → ¬ scc f k' q → rd w f k' q = rd σ f k' q := fun f k' q n1 n2 n3 n4 n5 => by
      rw [w1.1 f k' q n3 n5, y1 f k' q n4]
      exact gz f k' q n1 n2
    have S1 : Same w 1 nB nO nP a := y3.on fun f k' q hh => w1.1 f k' q (by unfold SIn at hh ⊢; omega) (by unfold SIn at hh; unfold scc; omega)
    refine w_record (nx := nx) (c := nC) ((gw 5 0 1 (by omega) (by omega) (by unfold SIn; omega) (by unfold SIn; omega) (by unfold scc; omega)).trans h4) hx8 ((gw 5 0 2 (by omega) (by omega) (by unfold SIn; omega) (by unfold SIn; omega) (by unfold scc; omega)).trans h5) hc8 (by decide) hB hO hP S1 (fun x x1 x2 x3 x4 x5 => ?_)
    unfold wX8_count
    have ex : rd x 11 0 3 = nI (K + 1) := by
      rw [x1 11 0 3 (by unfold SIn; omega) (by omega), w1.1 11 0 3 (by unfold SIn; omega) (by unfold scc; omega)]
      exact KCy.1
    rw [ex]
    have gx : ∀ f k' q : Nat, ¬ (f = 11 ∨ f = 12 ∨ (f = 10 ∧ k' = 7)) → ¬ (f = 13 ∧ k' = 0) → ¬ SIn 0 f k' → ¬ SIn 1 f k' → ¬ scc f k' q → ¬ SIn (3 + nx) f k' → ¬ (f = 5 ∧ k' = 0 ∧ (q = 1 ∨ q = 2)) → rd x f k' q = rd σ f k' q := fun f k' q n1 n2 n3 n4 n5 n6 n7 => (x1 f k' q n6 n7).trans (gw f k' q n1 n2 n3 n4 n5)
    have ex2 : x.2 = σ.2 := by rw [x2, w1.2, y2, z2, t2]
    have hcc : cN nC ≤ 8 := by
      unfold cN
      split <;> omega
    refine hD x _ (t + (K + 1)) mB mO mP a' (by omega) (by omega) ⟨K + 1, by omega, rfl⟩ ⟨⟨hcc, Nat.mod_lt _ (by decide), by omega⟩, F', G', w2.on (fun f k' q hh => x1 f k' q (by unfold SIn at hh; unfold SIn; omega) (by unfold SIn at hh; omega)), ⟨x3, x4⟩, fun k hk => ?_, fun m hm => ?_⟩ x5 ⟨fun f k q hp => ?_, by rw [ex2]⟩ (Txt.mk (z3.to (fun f q hf => ?_) (by rw [ex2, z2, t2])) (fun i hi => absurd hi (Nat.not_lt_zero _)))
    · exact (gx 10 k 0 (by omega) (by omega) (by unfold SIn; omega) (by unfold SIn; omega) (by unfold scc; omega) (by unfold SIn; omega) (by omega)).trans (hZ.1 k hk)
    · exact (gx 10 12 m (by omega) (by omega) (by unfold SIn; omega) (by unfold SIn; omega) (by unfold scc; omega) (by unfold SIn; omega) (by omega)).trans (hZ.2 m hm)
    · unfold pst SIn at hp
      exact gx f k q (by omega) (by omega) (by unfold SIn; omega) (by unfold SIn; omega) (by unfold scc; omega) (by unfold SIn; omega) (by omega)
    · rw [x1 f 0 q (by unfold SIn; omega) (by omega), w1.1 f 0 q (by unfold SIn; omega) (by unfold scc; omega), y1 f 0 q (by unfold SIn; omega)]
  · refine w_runF (N := K + 1) (by omega) (K + 1) 0 nB nO nP _ y rfl R KCy Sy Zy (fun w w1 => ⟨fun q => absurd q (nI_nm1 (by omega)), fun _ => ?_⟩)
    have gw : ∀ f k' q : Nat, ¬ (f = 11 ∨ f = 12 ∨ (f = 10 ∧ k' = 7)) → ¬ (f = 13 ∧ k' = 0) → ¬ SIn 0 f k' → ¬ SIn 1 f k' → ¬ scc f k' q → rd w f k' q = rd σ f k' q := fun f k' q n1 n2 n3 n4 n5 => by
      rw [w1.1 f k' q n3 n5, y1 f k' q n4]
      exact gz f k' q n1 n2
    have S1 : Same w 1 nB nO nP a := y3.on fun f k' q hh => w1.1 f k' q (by unfold SIn at hh ⊢; omega) (by unfold SIn at hh; unfold scc; omega)
    refine w_stk (k := 0) (k2 := 1) (by decide) (by decide) (by decide) hB hO hP S1 (fun x x1 x2 x3 s15 hs15 => Or.inr ⟨rfl, ?_⟩)
    have gx : ∀ f k' q : Nat, ¬ (f = 11 ∨ f = 12 ∨ (f = 10 ∧ k' = 7)) → ¬ (f = 13 ∧ k' = 0) → ¬ SIn 0 f k' → ¬ SIn 1 f k' → ¬ scc f k' q → ¬ (f = 14 ∧ k' = 0 ∧ q = 12) → rd s15 f k' q = rd σ f k' q := fun f k' q n1 n2 n3 n4 n5 n6 => by
      rw [hs15, rd_wr, if_neg n6, x1 f k' q n3]
      exact gw f k' q n1 n2 n3 n4 n5
    have ex2 : s15.2 = σ.2 := by rw [hs15, wr_2, x2, w1.2, y2, z2, t2]
    refine hR _ s15 ref2 ⟨⟨hc8, hx8, ht5⟩, F, G, x3.on (fun f k' q hh => by rw [hs15, rd_wr, if_neg (by unfold SIn at hh; omega)]), ⟨(gx 5 0 1 (by omega) (by omega) (by unfold SIn; omega) (by unfold SIn; omega) (by unfold scc; omega) (by omega)).trans h4, (gx 5 0 2 (by omega) (by omega) (by unfold SIn; omega) (by unfold SIn; omega) (by unfold scc; omega) (by omega)).trans h5⟩, fun k hk => ?_, fun m hm => ?_⟩ ⟨fun f k q hp => ?_, by rw [ex2]⟩ (Txt.mk (z3.to (fun f q hf => ?_) (by rw [ex2, z2, t2])) (fun i hi => absurd hi (Nat.not_lt_zero _)))
    · exact (gx 10 k 0 (by omega) (by omega) (by unfold SIn; omega) (by unfold SIn; omega) (by unfold scc; omega) (by omega)).trans (hZ.1 k hk)
    · exact (gx 10 12 m (by omega) (by omega) (by unfold SIn; omega) (by unfold SIn; omega) (by unfold scc; omega) (by omega)).trans (hZ.2 m hm)
    · unfold pst SIn at hp
      exact gx f k q (by omega) (by omega) (by unfold SIn; omega) (by unfold SIn; omega) (by unfold scc; omega) (by omega)
    · rw [hs15, rd_wr, if_neg (by omega), x1 f 0 q (by unfold SIn; omega), w1.1 f 0 q (by unfold SIn; omega) (by unfold scc; omega), y1 f 0 q (by unfold SIn; omega)]
