/-! STATICS AND CONSTANTS: what lies below the world and never changes -/
def cmNames : List String := ["BALE", "BLEND", "ORDER", "CANCEL", "MACHINES", "SPIN", "SPLICE", "JOIN", "SELL"]
def cmF : List (String × String × String × List Int32) := [("java/lang/Enum", "ordinal", "I", [0, 1, 2, 3, 4, 5, 6, 7, 8]), ("YarnMill$Command", "numbers", "I", [3, 2, 2, 1, 1, 1, 1, 0, 1]), ("YarnMill$Command", "digits", "I", [3, 3, 3, 3, 1, 3, 3, 0, 3])]
def rfNames : List String := ["NONE", "ARGUMENT", "STATE", "UNSUPPORTED", "ELEMENT", "INDEX"]
/-- words of the tables that every warming keeps, though they aren't among the good ones -/
def tabW : Cond → Bool
  | .fieldLinkNest .. => true
  | .methodLinkNest .. => true
  | .declares _ => true
  | .castable .. => true
  | _ => false
theorem tabW_warm {w : Cond} (hn : tabW w = true) {u U : State} (hW : u.WarmedH U.vm) (h : va_Nw w u) : va_Nw w U := by
  cases w <;> simp only [tabW, Bool.false_eq_true] at hn
  all_goals first | exact va_Nw.warmF hW h | exact va_Nw.warmM hW h | exact va_Nw.warmD hW h | exact va_Nw.warmC hW h
def Stat (x : Ctx) (U : State) (H : Heap) : Prop :=
  va_En "YarnMill$Command" "LYarnMill$Command;" cmNames cmF (xen x 0) (XA x) U H ∧ va_En "YarnMill$Refusal" "LYarnMill$Refusal;" rfNames [] (xen x 1) (XA x) U H ∧
  (va_Z "YarnMill$1" "$SwitchMap$YarnMill$Command" "[I" (.ref (xen x 2 0)) (XA x) U H ∧ va_T .int (xen x 2 0) 9 (fun j => .int (nI (j + 1))) (XA x) U H) ∧
  (va_Z "YarnMill$Command" "ALL" "[LYarnMill$Command;" (.ref (xen x 2 1)) (XA x) U H ∧ va_T (.object "YarnMill$Command") (xen x 2 1) 9 (fun j => .ref (xen x 0 j)) (XA x) U H) ∧
  (∀ w ∈ lw_tbl, tabW w = true → va_Nw w U)
theorem Stat.moved {x : Ctx} {u U : State} {H : Heap} (hW : u.WarmedH U.vm) (h : Stat x u H) : Stat x U H :=
  have hvm := hW.alike
  ⟨h.1.moved hvm, h.2.1.moved hvm, ⟨va_Z.moved hvm h.2.2.1.1, va_T.moved hvm h.2.2.1.2⟩, ⟨va_Z.moved hvm h.2.2.2.1.1, va_T.moved hvm h.2.2.2.1.2⟩, fun w hw ht => tabW_warm ht hW (h.2.2.2.2 w hw ht)⟩
theorem Stat.kept {x : Ctx} {U : State} {H H1 : Heap} (h : Stat x U H) (hq : ∀ a : Nat, a < H.size → ¬ XA x a → H1[a]? = H[a]?) : Stat x U H1 :=
  ⟨h.1.kept hq, h.2.1.kept hq, ⟨va_Z.kept h.2.2.1.1 hq, va_T.kept h.2.2.1.2 hq⟩, ⟨va_Z.kept h.2.2.2.1.1 hq, va_T.kept h.2.2.2.1.2 hq⟩, h.2.2.2.2⟩
