/-! COPIES OF A STOCK -/
/-- the cells of stock k -/
def SIn (k f k' : Nat) : Prop := (f ≤ 1 ∧ 10 * k ≤ k' ∧ k' < 10 * k + 10) ∨ ((f = 2 ∨ f = 3 ∨ f = 4) ∧ k' = k)
theorem rowCap_st {k i : Nat} (hk : k < 11) (hi : i < 10) : rowCap (10 * k + i) = if i < 5 then 10 else if i < 9 then 8 else 12 := by
  have h1 : (10 * k + i) % 10 = i := by omega
  unfold rowCap
  rw [if_neg (by omega), if_neg (by omega), h1]
/-- rows of stock k copied from stock k2 so far, other cells of the objects as g tells -/
def PR (σ : Mem) (k k2 i : Nat) (sz : Nat → Nat) (g : Nat → Nat → Nat → Int32) (σ' : Mem) : Prop :=
  (∀ f k' s : Nat, ¬ SIn k f k' → rd σ' f k' s = rd σ f k' s) ∧ (∀ f k' s : Nat, 2 ≤ f → rd σ' f k' s = g f k' s) ∧
  (∀ i' : Nat, i' < i → rd σ' 0 (10 * k + i') 1 = nI (sz i') ∧ ∀ q : Nat, q < sz i' → rd σ' 1 (10 * k + i') q = rd σ 1 (10 * k2 + i') q) ∧ σ'.2 = σ.2
theorem PR.row {σ σ' : Mem} {k k2 i : Nat} {sz : Nat → Nat} {g : Nat → Nat → Nat → Int32} {Q : Mem → Prop} {E : String → Mem → Prop} (hk : k < 11) (hk2 : k2 < 11) (hne : k2 ≠ k) (hi : i < 10) (hsz : rd σ 0 (10 * k2 + i) 1 = nI (sz i)) (hc : sz i ≤ rowCap (10 * k + i)) (P : PR σ k k2 i sz g σ') (h : ∀ τ : Mem, PR σ k k2 (i + 1) sz g τ → Q τ) : wX7_copyFrom (10 * k + i) (10 * k2 + i) σ' Q E := by
  obtain ⟨p1, p2, p3, p4⟩ := P
  have hcc := rowCap_le (10 * k + i)
  have hcap2 : rowCap (10 * k2 + i) = rowCap (10 * k + i) := by rw [rowCap_st hk hi, rowCap_st hk2 hi]
  have e0 : rd σ' 0 (10 * k2 + i) 1 = nI (sz i) := by
    rw [p1 0 _ 1 (by unfold SIn; omega)]
    exact hsz
  intro s1 hs1
  rw [e0, if_neg (nI_nlt hc (by omega))] at hs1
  have es : rd s1 0 (10 * k + i) 1 = nI (sz i) := by
    rw [hs1, rd_wr, if_pos ⟨rfl, rfl, rfl⟩]
  rw [es, nI_clamp (by omega)]
  refine ⟨⟨nI_pos (by omega), by omega, hc⟩, fun s2 hs2 => h s2 ⟨fun f k' s hn => ?_, fun f k' s hf => ?_, fun i' hi' => ⟨?_, fun q hq => ?_⟩, ?_⟩⟩
  · rw [hs2, rd_cpm, if_neg (by rintro ⟨rfl, rfl⟩; exact hn (Or.inl ⟨by omega, by omega, by omega⟩)), hs1, rd_wr, if_neg (by rintro ⟨rfl, rfl, -⟩; exact hn (Or.inl ⟨by omega, by omega, by omega⟩))]
    exact p1 f k' s hn
  · rw [hs2, rd_cpm, if_neg (by omega), hs1, rd_wr, if_neg (by omega)]
    exact p2 f k' s hf
  · rw [hs2, rd_cpm, if_neg (by omega)]
    by_cases c : i' = i
    · subst c
      exact es
    · rw [hs1, rd_wr, if_neg (by omega)]
      exact (p3 i' (by omega)).1
  · by_cases c : i' = i
    · subst c
      rw [hs2, rd_cpm, if_pos ⟨rfl, rfl⟩, pk_cpy_in (by omega) (by omega), hs1, rd_wr, if_neg (by omega), p1 1 _ _ (by unfold SIn; omega)]
      congr 1
      omega
    · rw [hs2, rd_cpm, if_neg (by omega), hs1, rd_wr, if_neg (by omega)]
      exact (p3 i' (by omega)).2 q hq
  · rw [hs2, hs1]
    exact p4
theorem PR.set {σ σ' : Mem} {k k2 i f s : Nat} {sz : Nat → Nat} {g : Nat → Nat → Nat → Int32} {v : Int32} (hf : f = 2 ∨ f = 3 ∨ f = 4) (P : PR σ k k2 i sz g σ') : PR σ k k2 i sz (fun f' k' s' => if f' = f ∧ k' = k ∧ s' = s then v else g f' k' s') (wr σ' f k s v) := by
  obtain ⟨p1, p2, p3, p4⟩ := P
  refine ⟨fun f' k' s' hn => ?_, fun f' k' s' h2 => ?_, fun i' hi' => ⟨?_, fun q hq => ?_⟩, p4⟩
  · rw [rd_wr, if_neg (by rintro ⟨rfl, rfl, -⟩; exact hn (Or.inr ⟨hf, rfl⟩))]
    exact p1 f' k' s' hn
  · rw [rd_wr, p2 f' k' s' h2]
  · rw [rd_wr, if_neg (by omega)]
    exact (p3 i' hi').1
  · rw [rd_wr, if_neg (by omega)]
    exact (p3 i' hi').2 q hq
