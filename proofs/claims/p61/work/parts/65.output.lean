/-! outputAt -/
theorem ch_nI {c : Nat} (h : c < 128) : ((nI c).toUInt32 % 65536).toInt32 = nI c := by
  have e : ∀ c : Nat, c < 128 → ((nI c).toUInt32 % 65536).toInt32 = nI c := by decide +kernel
  exact e c h
theorem ch_and {c : Nat} (h : c < 128) : ((nI c &&& 255).toUInt32 % 65536).toInt32 = nI c := by
  have e : ∀ c : Nat, c < 128 → ((nI c &&& 255).toUInt32 % 65536).toInt32 = nI c := by decide +kernel
  exact e c h
theorem ch_ok {c : Nat} (h : c < 128) : narrow .char (.int (nI c)) = .int (nI c) := (pk_charN (by omega)).1
