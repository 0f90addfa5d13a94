/-! what the reference records -/
def PastIs (σ τ : Mem) (c : Nat) : Prop := (∀ i q : Nat, i + 1 < cN c → q < 90 → rd τ 10 11 (90 * i + q) = rd σ 10 11 (90 * (i + (if c = 8 then 1 else 0)) + q)) ∧ ∀ q : Nat, q < 90 → rd τ 10 11 (90 * (cN c - 1) + q) = rd σ 10 9 q
theorem w_ends {c : Nat} {v : Int32} {σ : Mem} {Q : Int32 → Mem → Prop} {E : String → Mem → Prop} (h7 : rd σ 15 0 7 = 0) (h6 : rd σ 15 0 6 = nI c) (hc : c ≤ 8)
    (h : ∀ τ : Mem, (∀ f k s : Nat, ¬ (f = 10 ∧ k = 11) → ¬ (f = 15 ∧ k = 0 ∧ s = 6) → rd τ f k s = rd σ f k s) → τ.2 = σ.2 → rd τ 15 0 6 = nI (cN c) → PastIs σ τ c → Q v τ) : wX13_ends v σ Q E := by
  unfold wX13_ends
  refine ⟨fun _ => ⟨fun q => ?_, fun q => ?_⟩, fun q => absurd h7 q⟩
  · have hc8 : c ≠ 8 := by
      intro e
      subst e
      exact q h6
    have ec : cN c = c + 1 := if_neg hc8
    refine w_copies (A := 0) (B := 90 * c) rfl (by rw [h6]; exact pk_mul 90 c) (by decide) (show 90 * c + 90 ≤ 720 by omega) (by decide) (by decide) (fun e => absurd e (by decide)) (fun w hw => ?_)
    intro s3 hs3
    have k6 : rd w 15 0 6 = nI c := by
      rw [hw.1, if_neg (by omega)]
      exact h6
    refine h s3 (fun f k s n1 n2 => ?_) (by rw [hs3, wr_2, hw.2]) ?_ ⟨fun i q' hi hq => ?_, fun q' hq => ?_⟩
    · rw [hs3, rd_wr, if_neg (by omega), hw.1, if_neg (by omega)]
    · rw [hs3, rd_wr, if_pos ⟨rfl, rfl, rfl⟩, k6, nI_1, ec]
    · rw [hs3, rd_wr, if_neg (by omega), hw.1, if_neg (by omega), if_neg hc8]
      rfl
    · rw [hs3, rd_wr, if_neg (by omega), ec, hw.1, if_pos ⟨rfl, rfl, by omega, by omega⟩]
      congr 1
      omega
  · have hc8 : c = 8 := by
      rw [h6, show (8 : Int32) = nI 8 from rfl, nI_eq (by omega) (by decide)] at q
      exact q
    subst hc8
    have key : ∀ (X : Int32 → Mem → Prop) (m u : Nat) (σ' : Mem), u + m = 8 → 1 ≤ u → (∀ f k s : Nat, ¬ (f = 10 ∧ k = 11) → rd σ' f k s = rd σ f k s) → σ'.2 = σ.2 → (∀ i q : Nat, i + 1 < u → q < 90 → rd σ' 10 11 (90 * i + q) = rd σ 10 11 (90 * (i + 1) + q)) → (∀ s : Nat, 90 * (u - 1) ≤ s → rd σ' 10 11 s = rd σ 10 11 s) →
        (∀ τ : Mem, (∀ f k s : Nat, ¬ (f = 10 ∧ k = 11) → rd τ f k s = rd σ f k s) → τ.2 = σ.2 → (∀ i q : Nat, i + 1 < 8 → q < 90 → rd τ 10 11 (90 * i + q) = rd σ 10 11 (90 * (i + 1) + q)) → X v τ) → wX13_ends_20 Q E X (m + 1) v (nI u) σ' := by
      intro X m
      induction m with
      | zero =>
        intro u σ' hu _ p1 p2 p3 p4 hX
        obtain rfl : u = 8 := by omega
        exact ⟨fun _ => hX σ' p1 p2 p3, fun r => absurd (show (8 : Int32) ≤ nI 8 by decide) r⟩
      | succ m ih =>
        intro u σ' hu h1 p1 p2 p3 p4 hX
        refine ⟨fun r => absurd (show nI 8 ≤ nI u from r) (nI_ge (by omega) (by decide)), fun _ => ?_⟩
        obtain ⟨u', rfl⟩ : ∃ u', u = u' + 1 := ⟨u - 1, by omega⟩
        refine w_copies (A := 90 * (u' + 1)) (B := 90 * u') (pk_mul 90 (u' + 1)) (by rw [nI_pred]; exact pk_mul 90 u') (show 90 * (u' + 1) + 90 ≤ 720 by omega) (show 90 * u' + 90 ≤ 720 by omega) (by decide) (by decide) (fun _ => by omega) (fun w hw => ?_)
        intro v2 hv2
        rw [nI_1] at hv2
        subst hv2
        refine ih (u' + 1 + 1) w (by omega) (by omega) (fun f k s n1 => ?_) (by rw [hw.2, p2]) (fun i q' hi hq => ?_) (fun s hs => ?_) hX
        · rw [hw.1, if_neg (by omega)]
          exact p1 f k s n1
        · rw [hw.1]
          by_cases e : i = u'
          · subst e
            rw [if_pos ⟨rfl, rfl, by omega, by omega⟩, p4 _ (by omega)]
            congr 1
            omega
          · rw [if_neg (by omega)]
            exact p3 i q' (by omega) hq
        · rw [hw.1, if_neg (by omega)]
          exact p4 s (by omega)
    refine ⟨8, key _ 7 1 σ (by decide) (by decide) (fun _ _ _ _ => rfl) rfl (fun i _ hi _ => absurd hi (by omega)) (fun _ _ => rfl) (fun τ t1 t2 t3 => ?_)⟩
    intro s9 hs9
    have k9 : rd s9 15 0 6 = nI 7 := by
      rw [hs9, rd_wr, if_pos ⟨rfl, rfl, rfl⟩, t1 15 0 6 (by omega), h6]
      decide
    refine w_copies (A := 0) (B := 630) rfl (by rw [k9]; decide) (by decide) (by decide) (by decide) (by decide) (fun e => absurd e (by decide)) (fun w hw => ?_)
    intro s12 hs12
    have k12 : rd w 15 0 6 = nI 7 := by
      rw [hw.1, if_neg (by omega)]
      exact k9
    refine h s12 (fun f k s n1 n2 => ?_) (by rw [hs12, wr_2, hw.2, hs9, wr_2, t2]) ?_ ⟨fun i q' hi hq => ?_, fun q' hq => ?_⟩
    · rw [hs12, rd_wr, if_neg (by omega), hw.1, if_neg (by omega), hs9, rd_wr, if_neg (by omega)]
      exact t1 f k s n1
    · rw [hs12, rd_wr, if_pos ⟨rfl, rfl, rfl⟩, k12]
      decide
    · have hi8 : i + 1 < 8 := hi
      rw [hs12, rd_wr, if_neg (by omega), hw.1, if_neg (by omega), hs9, rd_wr, if_neg (by omega), if_pos rfl]
      exact t3 i q' hi8 hq
    · rw [hs12, rd_wr, if_neg (by omega), show 90 * (cN 8 - 1) + q' = 630 + q' from rfl, hw.1, if_pos ⟨rfl, rfl, by omega, by omega⟩, hs9, rd_wr, if_neg (by omega), t1 10 9 _ (by omega)]
      exact congrArg (rd σ 10 9) (show 0 + (630 + q' - 630) = q' by omega)
