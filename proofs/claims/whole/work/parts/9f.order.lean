/-! AN ORDER RENDERED -/
def oN (id l w : Nat) : Nat := dN id + 1 + dN l + 3 + dN w
/-- the text of an order; behind it, '!' -/
def oT (id l w i : Nat) : Nat := if i < dN id then dc id (dN id) i else if i = dN id then 58 else if i < dN id + 1 + dN l then dc l (dN l) (i - (dN id + 1)) else if i = dN id + 1 + dN l then 107 else if i = dN id + 1 + dN l + 1 then 109 else if i = dN id + 1 + dN l + 2 then 116 else if i < oN id l w then dc w (dN w) (i - (dN id + 1 + dN l + 3)) else 33
theorem oT_b (id l w i : Nat) : oT id l w i < 128 := by
  have h1 := dc_b id (dN id) i
  have h2 := dc_b l (dN l) (i - (dN id + 1))
  have h3 := dc_b w (dN w) (i - (dN id + 1 + dN l + 3))
  unfold oT
  repeat' split
  all_goals omega
theorem oT_1 {id l w i : Nat} (h : i < dN id) : oT id l w i = dc id (dN id) i := if_pos h
theorem oT_2 {id l w : Nat} : oT id l w (dN id) = 58 := by
  unfold oT
  rw [if_neg (Nat.lt_irrefl _), if_pos rfl]
theorem oT_3 {id l w i : Nat} (h : i < dN l) : oT id l w (dN id + 1 + i) = dc l (dN l) i := by
  unfold oT
  rw [if_neg (by omega), if_neg (by omega), if_pos (by omega), Nat.add_sub_cancel_left]
theorem oT_4 {id l w : Nat} : oT id l w (dN id + 1 + dN l) = 107 ∧ oT id l w (dN id + 1 + dN l + 1) = 109 ∧ oT id l w (dN id + 1 + dN l + 2) = 116 := by
  unfold oT
  refine ⟨?_, ?_, ?_⟩
  · rw [if_neg (by omega), if_neg (by omega), if_neg (by omega), if_pos rfl]
  · rw [if_neg (by omega), if_neg (by omega), if_neg (by omega), if_neg (by omega), if_pos rfl]
  · rw [if_neg (by omega), if_neg (by omega), if_neg (by omega), if_neg (by omega), if_neg (by omega), if_pos rfl]
theorem oT_5 {id l w i : Nat} (h : i < dN w) : oT id l w (dN id + 1 + dN l + 3 + i) = dc w (dN w) i := by
  unfold oT oN
  rw [if_neg (by omega), if_neg (by omega), if_neg (by omega), if_neg (by omega), if_neg (by omega), if_neg (by omega), if_pos (by omega), Nat.add_sub_cancel_left]
theorem oT_6 {id l w : Nat} : oT id l w (oN id l w) = 33 := by
  unfold oT oN
  rw [if_neg (by omega), if_neg (by omega), if_neg (by omega), if_neg (by omega), if_neg (by omega), if_neg (by omega), if_neg (by omega)]
theorem kmt_c : ∀ q : Nat, q < 3 → ((stByt.getD 9 []).getD q 0 = nI ([107, 109, 116].getD q 0)) ∧ fits .byte (.int ((stByt.getD 9 []).getD q 0)) = true := by decide +kernel
theorem w_appK {b n : Nat} {σ : Mem} {Q : Mem → Prop} {E : String → Mem → Prop} (W : WB σ b n) (hn : n + 3 ≤ 90) (h : ∀ τ : Mem, FX b σ τ → WB τ b (n + 3) → (∀ i : Nat, i < n → rd τ 16 b i = rd σ 16 b i) → (rd τ 16 b n = nI 107 ∧ rd τ 16 b (n + 1) = nI 109 ∧ rd τ 16 b (n + 2) = nI 116) → Q τ) : wJ4_append_15ec4 b 9 σ Q E := by
  have e3 : (nI (stLen.getD 9 0)) >>> ((0 : Int32) &&& 31) = nI 3 := by decide +kernel
  unfold wJ4_append_15ec4 wJ5_append_cf1ce
  refine ⟨rfl, ⟨rfl, ?_⟩⟩
  rw [e3]
  refine w_ens W (m := n + 3) (by rw [W.2.1, nI_add]) (by omega) (by omega) hn (fun τ t1 t2 t3 t4 => ?_)
  have hcap : τ.2.2.1 b ≤ 142 := by have := t2.2.2.2.1; omega
  refine ⟨rfl, ⟨fun _ => ⟨rfl, ⟨rfl, ⟨fun q => absurd t2.1.symm q, fun _ => ?_⟩⟩⟩, fun q => absurd t2.1 q⟩⟩
  have ea : (rd τ 13 b 3) <<< ((rd τ 13 b 1) &&& 31) = nI n := by
    rw [t2.2.1, t2.1, show ((0 : Int32) &&& 31) = 0 from by decide]
    exact Int32.shiftLeft_zero
  rw [ea, show (nI (stLen.getD 9 0)).toNatClampNeg = 3 from by decide +kernel, nI_clamp (by omega)]
  refine ⟨⟨nI_pos (by omega), by decide +kernel, by decide, by omega⟩, fun s3 h3 s7 h7 => ?_⟩
  have r16 : ∀ i : Nat, rd s3 16 b i = va_cpy (fun q => (stByt.getD 9 []).getD q 0) (rd τ 16 b) 0 n 3 i := fun i => by
    rw [h3]
    exact if_pos ⟨rfl, rfl⟩
  have rout : ∀ f k s : Nat, ¬ (f = 16 ∧ k = b) → rd s3 f k s = rd τ f k s := fun f k s q => by
    rw [h3]
    exact if_neg q
  have c3 : s3.2 = τ.2 := by rw [h3]; rfl
  have W3 : WB s3 b n := by
    refine ⟨(rout 13 b 1 (by omega)).trans t2.1, (rout 13 b 3 (by omega)).trans t2.2.1, by rw [c3]; exact t2.2.2.1, by rw [c3]; exact t2.2.2.2.1, fun i hi => ?_⟩
    rw [c3] at hi
    rw [r16]
    by_cases c : n ≤ i ∧ i < n + 3
    · rw [pk_cpy_in c.1 c.2]
      exact (kmt_c _ (by omega)).2
    · rw [pk_cpy_out (by omega)]
      exact t2.2.2.2.2 i hi
  rw [W3.2.1, nI_add] at h7
  have L := w_len13 (b := b) (m := n + 3) (v := nI (n + 3)) rfl (by rw [c3]; exact t3) W3
  rw [← h7] at L
  have F3 : FX b τ s3 := ⟨fun f k s q => rout f k s (by omega), fun k _ => by rw [c3], by rw [c3]⟩
  have r7 : ∀ i : Nat, rd s7 16 b i = rd s3 16 b i := fun i => by rw [h7, rd_wr, if_neg (by omega)]
  have kq : ∀ q : Nat, q < 3 → rd s7 16 b (n + q) = nI ([107, 109, 116].getD q 0) := fun q hq => by
    rw [r7, r16, pk_cpy_in (by omega) (by omega), ← (kmt_c q hq).1]
    congr 1
    omega
  refine h s7 (t1.tr (F3.tr L.1)) L.2 (fun i hi => ?_) ⟨kq 0 (by decide), kq 1 (by decide), kq 2 (by decide)⟩
  rw [r7, r16, pk_cpy_out (by omega)]
  exact t4 i hi
