/-! STATICS AND CONSTANTS: what lies below the world and never changes -/
def cmNames : List String := ["BALE", "BLEND", "ORDER", "CANCEL", "MACHINES", "SPIN", "SPLICE", "JOIN", "SELL"]
def cmF : List (String × String × String × List Int32) := [("java/lang/Enum", "ordinal", "I", [0, 1, 2, 3, 4, 5, 6, 7, 8]), ("YarnMill$Command", "numbers", "I", [3, 2, 2, 1, 1, 1, 1, 0, 1]), ("YarnMill$Command", "digits", "I", [3, 3, 3, 3, 1, 3, 3, 0, 3])]
def rfNames : List String := ["NONE", "ARGUMENT", "STATE", "UNSUPPORTED", "ELEMENT", "INDEX"]
def Stat (x : Ctx) (U : State) (H : Heap) : Prop :=
  va_En "YarnMill$Command" "LYarnMill$Command;" cmNames cmF (xen x 0) (XA x) U H ∧ va_En "YarnMill$Refusal" "LYarnMill$Refusal;" rfNames [] (xen x 1) (XA x) U H ∧
  (va_Z "YarnMill$1" "$SwitchMap$YarnMill$Command" "[I" (.ref (xen x 2 0)) (XA x) U H ∧ va_T .int (xen x 2 0) 9 (fun j => .int (nI (j + 1))) (XA x) U H) ∧
  (va_Z "YarnMill$Command" "ALL" "[LYarnMill$Command;" (.ref (xen x 2 1)) (XA x) U H ∧ va_T (.object "YarnMill$Command") (xen x 2 1) 9 (fun j => .ref (xen x 0 j)) (XA x) U H)
theorem Stat.moved {x : Ctx} {u U : State} {H : Heap} (hvm : u.vm.Alike U.vm) (h : Stat x u H) : Stat x U H :=
  ⟨h.1.moved hvm, h.2.1.moved hvm, ⟨va_Z.moved hvm h.2.2.1.1, va_T.moved hvm h.2.2.1.2⟩, ⟨va_Z.moved hvm h.2.2.2.1, va_T.moved hvm h.2.2.2.2⟩⟩
theorem Stat.kept {x : Ctx} {U : State} {H H1 : Heap} (h : Stat x U H) (hq : ∀ a : Nat, a < H.size → ¬ XA x a → H1[a]? = H[a]?) : Stat x U H1 :=
  ⟨h.1.kept hq, h.2.1.kept hq, ⟨va_Z.kept h.2.2.1.1 hq, va_T.kept h.2.2.1.2 hq⟩, ⟨va_Z.kept h.2.2.2.1 hq, va_T.kept h.2.2.2.2 hq⟩⟩
