/-! THE LAW'S CHANGES -/
def Ref (r : Int32) : Prop := r = -900001 ∨ r = -900002 ∨ r = -900003
def An (v : Int32) : Prop := ∃ w : Nat, w ≤ 300000 ∧ v = nI w
/-- a call that is refused and changes nothing, or is done: then the state before stands in the ring -/
def Act (w : Mem → (Int32 → Mem → Prop) → (String → Mem → Prop) → Prop) (n t nC nx nB nO nP : Nat) (a : Nat → Int32) (σ : Mem) : Prop := ∀ (Q : Int32 → Mem → Prop) (E : String → Mem → Prop),
  (∀ (r : Int32) (τ : Mem), Ref r → J t nC nx nB nO nP a τ → Ps σ τ → (Sg σ → Sg τ) → Q r τ) →
  (∀ (τ : Mem) (v : Int32) (t' nB' nO' nP' : Nat) (a' : Nat → Int32), t ≤ t' → t' ≤ t + n → An v → J t' (cN nC) ((nx + 1) % 8) nB' nO' nP' a' τ → Same τ (3 + nx) nB nO nP a → Ps σ τ → (Sg σ → Sg τ) → Q v τ) → w σ Q E
theorem An.of {t : Nat} {v : Int32} (ht : t ≤ 512) (h : Ans t v) : An v := by
  obtain ⟨w, h1, h2⟩ := h
  exact ⟨w, by omega, h2⟩
theorem ref1 : Ref (-900001) := Or.inl rfl
theorem ref2 : Ref (-900002) := Or.inr (Or.inl rfl)
theorem ref3 : Ref (-900003) := Or.inr (Or.inr rfl)
theorem l_buyBale {t nC nx nB nO nP : Nat} {a : Nat → Int32} {σ : Mem} (x1 : Int32) (x2 : Int32) (x3 : Int32) (I : J t nC nx nB nO nP a σ) (ht : t < 512) : Act (fun s Q E => wL_buyBale x1 x2 x3 s Q E) 1 t nC nx nB nO nP a σ := by
  intro Q E hR hD
  have F := I.2.1
  have G := I.2.2.1
  refine chg I ht (c := 0) (L := [1, 2, 3]) (fun r m => ?_) (op_0 x1 x2 x3 (Nat.le_of_lt ht) F G) (fun r τ m u => ?_) (fun τ v nB' nO' nP' a' h1 h2 h3 h4 h5 => hD τ v (t + 1) nB' nO' nP' a' (Nat.le_succ t) (Nat.le_refl _) (An.of (Nat.le_of_lt ht) h1) h2 h3 h4 h5)
  · simp only [List.mem_cons, List.mem_nil_iff, or_false] at m
    omega
  · simp only [List.mem_cons, List.mem_nil_iff, or_false] at m
    rcases m with rfl | rfl | rfl
    · exact Or.inl ⟨rfl, hR _ τ ref1 (I.on u) u.ps u.sg⟩
    · exact Or.inr (Or.inl ⟨rfl, hR _ τ ref2 (I.on u) u.ps u.sg⟩)
    · exact Or.inr (Or.inr (⟨rfl, hR _ τ ref3 (I.on u) u.ps u.sg⟩))
theorem l_blend {t nC nx nB nO nP : Nat} {a : Nat → Int32} {σ : Mem} (x1 : Int32) (x2 : Int32) (I : J t nC nx nB nO nP a σ) (ht : t < 512) : Act (fun s Q E => wL_blend x1 x2 s Q E) 1 t nC nx nB nO nP a σ := by
  intro Q E hR hD
  have F := I.2.1
  have G := I.2.2.1
  refine chg I ht (c := 1) (L := [1, 3, 2]) (fun r m => ?_) (op_1 x1 x2 (Nat.le_of_lt ht) F G) (fun r τ m u => ?_) (fun τ v nB' nO' nP' a' h1 h2 h3 h4 h5 => hD τ v (t + 1) nB' nO' nP' a' (Nat.le_succ t) (Nat.le_refl _) (An.of (Nat.le_of_lt ht) h1) h2 h3 h4 h5)
  · simp only [List.mem_cons, List.mem_nil_iff, or_false] at m
    omega
  · simp only [List.mem_cons, List.mem_nil_iff, or_false] at m
    rcases m with rfl | rfl | rfl
    · exact Or.inl ⟨rfl, hR _ τ ref1 (I.on u) u.ps u.sg⟩
    · exact Or.inr (Or.inl ⟨rfl, hR _ τ ref2 (I.on u) u.ps u.sg⟩)
    · exact Or.inr (Or.inr (⟨rfl, hR _ τ ref3 (I.on u) u.ps u.sg⟩))
theorem l_addOrder {t nC nx nB nO nP : Nat} {a : Nat → Int32} {σ : Mem} (x1 : Int32) (x2 : Int32) (I : J t nC nx nB nO nP a σ) (ht : t < 512) : Act (fun s Q E => wL_addOrder x1 x2 s Q E) 1 t nC nx nB nO nP a σ := by
  intro Q E hR hD
  have F := I.2.1
  have G := I.2.2.1
  refine chg I ht (c := 2) (L := [1, 2]) (fun r m => ?_) (op_2 x1 x2 (Nat.le_of_lt ht) F G) (fun r τ m u => ?_) (fun τ v nB' nO' nP' a' h1 h2 h3 h4 h5 => hD τ v (t + 1) nB' nO' nP' a' (Nat.le_succ t) (Nat.le_refl _) (An.of (Nat.le_of_lt ht) h1) h2 h3 h4 h5)
  · simp only [List.mem_cons, List.mem_nil_iff, or_false] at m
    omega
  · simp only [List.mem_cons, List.mem_nil_iff, or_false] at m
    rcases m with rfl | rfl
    · exact Or.inl ⟨rfl, hR _ τ ref1 (I.on u) u.ps u.sg⟩
    · exact Or.inr (⟨rfl, hR _ τ ref2 (I.on u) u.ps u.sg⟩)
theorem l_cancelOrder {t nC nx nB nO nP : Nat} {a : Nat → Int32} {σ : Mem} (x1 : Int32) (I : J t nC nx nB nO nP a σ) (ht : t < 512) : Act (fun s Q E => wL_cancelOrder x1 s Q E) 1 t nC nx nB nO nP a σ := by
  intro Q E hR hD
  have F := I.2.1
  have G := I.2.2.1
  refine chg I ht (c := 3) (L := [4]) (fun r m => ?_) (op_3 x1 (Nat.le_of_lt ht) F G) (fun r τ m u => ?_) (fun τ v nB' nO' nP' a' h1 h2 h3 h4 h5 => hD τ v (t + 1) nB' nO' nP' a' (Nat.le_succ t) (Nat.le_refl _) (An.of (Nat.le_of_lt ht) h1) h2 h3 h4 h5)
  · simp only [List.mem_cons, List.mem_nil_iff, or_false] at m
    omega
  · simp only [List.mem_cons, List.mem_nil_iff, or_false] at m
    subst m
    exact ⟨rfl, hR _ τ ref1 (I.on u) u.ps u.sg⟩
theorem l_setMachines {t nC nx nB nO nP : Nat} {a : Nat → Int32} {σ : Mem} (x1 : Int32) (I : J t nC nx nB nO nP a σ) (ht : t < 512) : Act (fun s Q E => wL_setMachines x1 s Q E) 1 t nC nx nB nO nP a σ := by
  intro Q E hR hD
  have F := I.2.1
  have G := I.2.2.1
  refine chg I ht (c := 4) (L := [1]) (fun r m => ?_) (op_4 x1 (Nat.le_of_lt ht) F G) (fun r τ m u => ?_) (fun τ v nB' nO' nP' a' h1 h2 h3 h4 h5 => hD τ v (t + 1) nB' nO' nP' a' (Nat.le_succ t) (Nat.le_refl _) (An.of (Nat.le_of_lt ht) h1) h2 h3 h4 h5)
  · simp only [List.mem_cons, List.mem_nil_iff, or_false] at m
    omega
  · simp only [List.mem_cons, List.mem_nil_iff, or_false] at m
    subst m
    exact ⟨rfl, hR _ τ ref1 (I.on u) u.ps u.sg⟩
theorem l_spin {t nC nx nB nO nP : Nat} {a : Nat → Int32} {σ : Mem} (x1 : Int32) (I : J t nC nx nB nO nP a σ) (ht : t < 512) : Act (fun s Q E => wL_spin x1 s Q E) 1 t nC nx nB nO nP a σ := by
  intro Q E hR hD
  have F := I.2.1
  have G := I.2.2.1
  refine chg I ht (c := 5) (L := [4, 3, 2]) (fun r m => ?_) (op_5 x1 (Nat.le_of_lt ht) F G) (fun r τ m u => ?_) (fun τ v nB' nO' nP' a' h1 h2 h3 h4 h5 => hD τ v (t + 1) nB' nO' nP' a' (Nat.le_succ t) (Nat.le_refl _) (An.of (Nat.le_of_lt ht) h1) h2 h3 h4 h5)
  · simp only [List.mem_cons, List.mem_nil_iff, or_false] at m
    omega
  · simp only [List.mem_cons, List.mem_nil_iff, or_false] at m
    rcases m with rfl | rfl | rfl
    · exact Or.inl ⟨rfl, hR _ τ ref1 (I.on u) u.ps u.sg⟩
    · exact Or.inr (Or.inl ⟨rfl, hR _ τ ref2 (I.on u) u.ps u.sg⟩)
    · exact Or.inr (Or.inr (⟨rfl, hR _ τ ref3 (I.on u) u.ps u.sg⟩))
theorem l_splice {t nC nx nB nO nP : Nat} {a : Nat → Int32} {σ : Mem} (x1 : Int32) (I : J t nC nx nB nO nP a σ) (ht : t < 512) : Act (fun s Q E => wL_splice x1 s Q E) 1 t nC nx nB nO nP a σ := by
  intro Q E hR hD
  have F := I.2.1
  have G := I.2.2.1
  refine chg I ht (c := 6) (L := [5]) (fun r m => ?_) (op_6 x1 (Nat.le_of_lt ht) F G) (fun r τ m u => ?_) (fun τ v nB' nO' nP' a' h1 h2 h3 h4 h5 => hD τ v (t + 1) nB' nO' nP' a' (Nat.le_succ t) (Nat.le_refl _) (An.of (Nat.le_of_lt ht) h1) h2 h3 h4 h5)
  · simp only [List.mem_cons, List.mem_nil_iff, or_false] at m
    omega
  · simp only [List.mem_cons, List.mem_nil_iff, or_false] at m
    subst m
    exact ⟨rfl, hR _ τ ref1 (I.on u) u.ps u.sg⟩
theorem l_spliceAll {t nC nx nB nO nP : Nat} {a : Nat → Int32} {σ : Mem}  (I : J t nC nx nB nO nP a σ) (ht : t < 512) : Act (fun s Q E => wL_spliceAll  s Q E) 1 t nC nx nB nO nP a σ := by
  intro Q E hR hD
  have F := I.2.1
  have G := I.2.2.1
  refine chg I ht (c := 7) (L := [2]) (fun r m => ?_) (op_7  (Nat.le_of_lt ht) F G) (fun r τ m u => ?_) (fun τ v nB' nO' nP' a' h1 h2 h3 h4 h5 => hD τ v (t + 1) nB' nO' nP' a' (Nat.le_succ t) (Nat.le_refl _) (An.of (Nat.le_of_lt ht) h1) h2 h3 h4 h5)
  · simp only [List.mem_cons, List.mem_nil_iff, or_false] at m
    omega
  · simp only [List.mem_cons, List.mem_nil_iff, or_false] at m
    subst m
    exact ⟨rfl, hR _ τ ref1 (I.on u) u.ps u.sg⟩
theorem l_sell {t nC nx nB nO nP : Nat} {a : Nat → Int32} {σ : Mem} (x1 : Int32) (I : J t nC nx nB nO nP a σ) (ht : t < 512) : Act (fun s Q E => wL_sell x1 s Q E) 1 t nC nx nB nO nP a σ := by
  intro Q E hR hD
  have F := I.2.1
  have G := I.2.2.1
  refine chg I ht (c := 8) (L := [5]) (fun r m => ?_) (op_8 x1 (Nat.le_of_lt ht) F G) (fun r τ m u => ?_) (fun τ v nB' nO' nP' a' h1 h2 h3 h4 h5 => hD τ v (t + 1) nB' nO' nP' a' (Nat.le_succ t) (Nat.le_refl _) (An.of (Nat.le_of_lt ht) h1) h2 h3 h4 h5)
  · simp only [List.mem_cons, List.mem_nil_iff, or_false] at m
    omega
  · simp only [List.mem_cons, List.mem_nil_iff, or_false] at m
    subst m
    exact ⟨rfl, hR _ τ ref1 (I.on u) u.ps u.sg⟩
