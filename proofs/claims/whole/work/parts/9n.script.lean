/-! THE FORM OF A SCRIPT: the reference -/
/-- the i-th command, as the reference keeps it -/
def CmF (s : Nat → Nat) (i : Nat) (τ : Mem) : Prop := rd τ 10 16 (4 * i) = nI (Lt (wn s (ps s i))) ∧ ∀ q : Nat, q < nn (wn s (ps s i)) → rd τ 10 16 (4 * i + 1 + q) = nI (av s (dg (wn s (ps s i))) q (ps s i + (wt (wn s (ps s i))).length))
theorem CmF.on {s : Nat → Nat} {i : Nat} {σ τ : Mem} (hw : wn s (ps s i) < 9) (h : CmF s i σ) (g : ∀ q : Nat, 4 * i ≤ q → q < 4 * i + 4 → rd τ 10 16 q = rd σ 10 16 q) : CmF s i τ := by
  obtain ⟨h2, h3⟩ := h
  have := (nums_c _ hw).2.2.1
  exact ⟨(g _ (by omega) (by omega)).trans h2, fun q hq => (g _ (by omega) (by omega)).trans (h3 q hq)⟩
theorem w_script {n K : Nat} {a : Nat → Int32} {σ : Mem} {Q : Int32 → Mem → Prop} {E : String → Mem → Prop} (S : Sgs n a) (h15 : rd σ 10 15 = a) (h17 : rd σ 15 0 17 = nI n) (k1 : ∀ i : Nat, i < K → Gs (sg n a) n i) (k2 : ¬ Gs (sg n a) n K)
    (h : ∀ τ : Mem, (∀ f k' q : Nat, ¬ (f = 15 ∧ k' = 0 ∧ (q = 18 ∨ q = 19)) → ¬ (f = 10 ∧ k' = 16) → rd τ f k' q = rd σ f k' q) → τ.2 = σ.2 → rd τ 15 0 18 = nI (cm (sg n a) (ps (sg n a) K)).2 → (¬ OkF (sg n a) n K → Q 0 τ) ∧ (OkF (sg n a) n K → rd τ 15 0 19 = nI (K + 1) → (∀ i : Nat, i ≤ K → CmF (sg n a) i τ) → Q 1 τ)) : wX13_isScript σ Q E := by
  intro s1 hs1 s2 hs2
  have hn := S.1
  have hK := ps_k hn k1
  have key : ∀ (d k : Nat) (u : Mem), d + k = K → (∀ f k' q : Nat, ¬ (f = 15 ∧ k' = 0 ∧ (q = 18 ∨ q = 19)) → ¬ (f = 10 ∧ k' = 16) → rd u f k' q = rd σ f k' q) → u.2 = σ.2 → (∀ i : Nat, i < k → CmF (sg n a) i u) → CmR k (ps (sg n a) k) (sg n a) u (fun r3 s4 => wX13_isScript_15 Q E (fun (x1_9 : Int32) (s10 : Mem) => ((x1_9 = 0 → Q 0 s10) ∧ (¬ x1_9 = 0 → ((¬ rd s10 15 0 18 = rd s10 15 0 17 → Q 0 s10) ∧ (rd s10 15 0 18 = rd s10 15 0 17 → Q 1 s10))))) (d + 1) r3 s4) := by
    intro d
    induction d with
    | zero => ?_
    | succ d ih => ?_
    all_goals
      intro k u e g g2 C τ t1 t2
      have hk := ps_k (n := n) (a := a) hn (k := k) (fun i hi => k1 i (by omega))
      obtain ⟨c1, c2, c3⟩ := cm_end (sg n a) (ps (sg n a) k)
      have gτ : ∀ f k' q : Nat, ¬ (f = 15 ∧ k' = 0 ∧ (q = 18 ∨ q = 19)) → ¬ (f = 10 ∧ k' = 16) → rd τ f k' q = rd σ f k' q := fun f k' q n1 n2 => (t1.1 f k' q n1 (by omega)).trans (g f k' q n1 n2)
      have gτ2 : τ.2 = σ.2 := t1.2.trans g2
      have Rτ : RS n a (cm (sg n a) (ps (sg n a) k)).2 τ := ⟨(funext fun q => gτ 10 15 q (by omega) (by omega)).trans h15, (gτ 15 0 17 (by omega) (by omega)).trans h17, t2⟩
      have Cτ : (cm (sg n a) (ps (sg n a) k)).1 = true → rd τ 10 16 (4 * k) = nI (Lt (wn (sg n a) (ps (sg n a) k))) → (∀ q : Nat, q < nn (wn (sg n a) (ps (sg n a) k)) → rd τ 10 16 (4 * k + 1 + q) = nI (av (sg n a) (dg (wn (sg n a) (ps (sg n a) k))) q (ps (sg n a) k + (wt (wn (sg n a) (ps (sg n a) k))).length))) → ∀ i : Nat, i < k + 1 → CmF (sg n a) i τ := fun _ l v i hi => by
        by_cases c : i = k
        · subst c
          exact ⟨l, v⟩
        · exact (C i (by omega)).on ((cm_end (sg n a) (ps (sg n a) i)).2.2 (k1 i (by omega)).1).1 (fun q q1 q2 => t1.1 10 16 q (by omega) (by omega))
    · obtain rfl : k = K := by omega
      refine ⟨fun f => ⟨fun _ => ⟨fun _ => ?_, fun z => absurd rfl z⟩, fun z => absurd rfl z⟩, fun f f19 fl fv => ⟨fun z => absurd z (by decide), fun _ => ?_⟩⟩
      · exact (h τ gτ gτ2 t2).1 (fun z => Bool.noConfusion (f.symm.trans z.1))
      · refine w_rSign (v := 59) S Rτ (by omega) (by decide) (fun ne => ⟨fun _ => ⟨fun z => absurd z (by decide), fun _ => ?_⟩, fun z => absurd rfl z⟩) (fun e59 => absurd ⟨f, fun z => ?_, e59⟩ k2)
        · have F' := F18.wr τ (nI (cm (sg n a) (ps (sg n a) k)).2)
          have e18 : rd (wr τ 15 0 18 (nI (cm (sg n a) (ps (sg n a) k)).2)) 15 0 18 = nI (cm (sg n a) (ps (sg n a) k)).2 := by rw [rd_wr, if_pos ⟨rfl, rfl, rfl⟩]
          obtain ⟨b1, b2⟩ := h _ (fun f k' q n1 n2 => (F'.1 f k' q (by omega)).trans (gτ f k' q n1 n2)) (F'.2.trans gτ2) e18
          show (¬ rd (wr τ 15 0 18 (nI (cm (sg n a) (ps (sg n a) k)).2)) 15 0 18 = rd (wr τ 15 0 18 (nI (cm (sg n a) (ps (sg n a) k)).2)) 15 0 17 → _) ∧ _
          rw [e18, F'.1 15 0 17 (by omega), Rτ.2.1, nI_eq (by omega) (by omega)]
          refine ⟨fun z => b1 (fun y => z y.2), fun z => b2 ⟨f, z⟩ ((F'.1 15 0 19 (by omega)).trans f19) (fun i hi => ?_)⟩
          have hwi : wn (sg n a) (ps (sg n a) i) < 9 := by
            by_cases c : i = k
            · rw [c]; exact (c3 f).1
            · exact ((cm_end (sg n a) (ps (sg n a) i)).2.2 (k1 i (by omega)).1).1
          exact (Cτ f fl fv i (by omega)).on hwi (fun q _ _ => F'.1 10 16 q (by omega))
        · rw [sg_out (by omega)] at e59
          omega
    · have G := k1 k (by omega)
      refine ⟨fun f => Bool.noConfusion (f.symm.trans G.1), fun f f19 fl fv => ⟨fun z => absurd z (by decide), fun _ => ?_⟩⟩
      refine w_rSign (v := 59) S Rτ (by omega) (by decide) (fun ne => absurd G.2.2 ne) (fun e59 => ⟨fun z => absurd z (by decide), fun _ => ?_⟩)
      have F' := F18.wr τ (nI ((cm (sg n a) (ps (sg n a) k)).2 + 1))
      have hk2 := ps_k (n := n) (a := a) hn (k := k + 1) (fun i hi => k1 i (by omega))
      have e18 : rd (wr τ 15 0 18 (nI ((cm (sg n a) (ps (sg n a) k)).2 + 1))) 15 0 18 = nI (ps (sg n a) (k + 1)) := by
        rw [rd_wr, if_pos ⟨rfl, rfl, rfl⟩]
        rfl
      refine w_rCmd S (Rτ.to (fun f k' q hq => F'.1 f k' q (by omega)) e18) (by omega) (k := k + 1) (by omega) ((F'.1 15 0 19 (by omega)).trans f19) ?_
      exact ih (k + 1) _ (by omega) (fun f k' q n1 n2 => (F'.1 f k' q (by omega)).trans (gτ f k' q n1 n2)) (F'.2.trans gτ2) (fun i hi => (Cτ f fl fv i hi).on ((cm_end (sg n a) (ps (sg n a) i)).2.2 (k1 i (by omega)).1).1 (fun q _ _ => F'.1 10 16 q (by omega)))
  have g : ∀ f k' q : Nat, ¬ (f = 15 ∧ k' = 0 ∧ (q = 18 ∨ q = 19)) → rd s2 f k' q = rd σ f k' q := fun f k' q n1 => by rw [hs2, rd_wr, if_neg (by omega), hs1, rd_wr, if_neg (by omega)]
  have e18 : rd s2 15 0 18 = nI (ps (sg n a) 0) := by
    rw [hs2, rd_wr, if_neg (by omega), hs1, rd_wr, if_pos ⟨rfl, rfl, rfl⟩]
    rfl
  have e19 : rd s2 15 0 19 = nI 0 := by
    rw [hs2, rd_wr, if_pos ⟨rfl, rfl, rfl⟩]
    rfl
  have C := key K 0 s2 rfl (fun f k' q n1 _ => g f k' q n1) (by rw [hs2, wr_2, hs1, wr_2]) (fun i hi => absurd hi (Nat.not_lt_zero _))
  refine w_rCmd (k := 0) (p := ps (sg n a) 0) S ⟨(funext fun q => g 10 15 q (by omega)).trans h15, (g 15 0 17 (by omega)).trans h17, e18⟩ (Nat.zero_le _) (by decide) e19 (fun τ t1 t2 => ?_)
  exact ⟨fun f => ⟨K + 1, (C τ t1 t2).1 f⟩, fun f x y z => ⟨K + 1, (C τ t1 t2).2 f x y z⟩⟩
