/-! STATICS AND CONSTANTS: what lies below the world and never changes -/
def cmNames : List String := ["BALE", "BLEND", "ORDER", "CANCEL", "MACHINES", "SPIN", "SPLICE", "JOIN", "SELL"]
def cmF : List (String × String × String × List Int32) := [("java/lang/Enum", "ordinal", "I", [0, 1, 2, 3, 4, 5, 6, 7, 8]), ("YarnMill$Command", "numbers", "I", [3, 2, 2, 1, 1, 1, 1, 0, 1]), ("YarnMill$Command", "digits", "I", [3, 3, 3, 3, 1, 3, 3, 0, 3])]
def rfNames : List String := ["NONE", "ARGUMENT", "STATE", "UNSUPPORTED", "ELEMENT", "INDEX"]
/-- words of the tables that every warming keeps, though they aren't among the good ones -/
def tabW : Cond → Bool
  | .fieldLinkNest .. => true
  | .methodLinkNest .. => true
  | .declares _ => true
  | .castable .. => true
  | _ => false
theorem tabW_warm {w : Cond} (hn : tabW w = true) {u U : State} (hW : u.WarmedH U.vm) (h : va_Nw w u) : va_Nw w U := by
  cases w <;> simp only [tabW, Bool.false_eq_true] at hn
  all_goals first | exact va_Nw.warmF hW h | exact va_Nw.warmM hW h | exact va_Nw.warmD hW h | exact va_Nw.warmC hW h
/-- the texts of the class's words, of "kmt", of the reference's words: the letters of each -/
def stTx : List (String × Nat × String) := [("YarnMill$Command", 62, "bale "), ("YarnMill$Command", 68, "blend "), ("YarnMill$Command", 71, "order "), ("YarnMill$Command", 74, "cancel "), ("YarnMill$Command", 77, "machines "), ("YarnMill$Command", 80, "spin "), ("YarnMill$Command", 83, "splice "), ("YarnMill$Command", 86, "join"), ("YarnMill$Command", 89, "sell "), ("YarnMillLaw", 152, "bale "), ("YarnMillLaw", 161, " 30 2;blend "), ("YarnMillLaw", 163, " 20"), ("YarnMillLaw", 169, "order "), ("YarnMillLaw", 171, " 4;spin "), ("YarnMillLaw", 173, "splice "), ("YarnMillLaw", 175, ";sell 0"), ("YarnMillLaw", 177, "machines "), ("YarnMillLaw", 179, ";join")]
def stByt : List (List Int32) := [[98, 97, 108, 101, 32], [98, 108, 101, 110, 100, 32], [111, 114, 100, 101, 114, 32], [99, 97, 110, 99, 101, 108, 32], [109, 97, 99, 104, 105, 110, 101, 115, 32], [115, 112, 105, 110, 32], [115, 112, 108, 105, 99, 101, 32], [106, 111, 105, 110], [115, 101, 108, 108, 32], [98, 97, 108, 101, 32], [32, 51, 48, 32, 50, 59, 98, 108, 101, 110, 100, 32], [32, 50, 48], [111, 114, 100, 101, 114, 32], [32, 52, 59, 115, 112, 105, 110, 32], [115, 112, 108, 105, 99, 101, 32], [59, 115, 101, 108, 108, 32, 48], [109, 97, 99, 104, 105, 110, 101, 115, 32], [59, 106, 111, 105, 110]]
def stLen : List Nat := [5, 6, 6, 7, 9, 5, 7, 4, 5, 5, 12, 3, 6, 8, 7, 7, 9, 5]
/-- the texts of the exceptions -/
def exTx : List (Nat × String) := [(387, "an argument is out of its range"), (392, "there is no room, or too little to work on"), (397, "there are too few coins, bales or kilograms"), (402, "there is no such open order"), (407, "there is no such position on the shelf"), (486, "there is no such rank"), (235, "there are no pieces"), (359, "there is nothing to undo"), (368, "there is no snapshot"), (481, "there is no such bale"), (491, "the need or the staple is out of its range"), (181, "there is no such blend"), (133, "there is no bale at this position"), (191, "there is no open order at this position"), (316, "the character cannot be typed"), (325, "the script buffer is full"), (337, "the script does not have the required form"), (346, "a command of the script failed")]
def digOnes (j : Nat) : Int32 := nI (48 + j % 10)
def digTens (j : Nat) : Int32 := nI (48 + j / 10)
abbrev eIA : String := "java/lang/IllegalArgumentException"
abbrev eIS : String := "java/lang/IllegalStateException"
abbrev eUO : String := "java/lang/UnsupportedOperationException"
abbrev eNE : String := "java/util/NoSuchElementException"
abbrev eIO : String := "java/lang/IndexOutOfBoundsException"
def xcNames : List String := [eIA, eIS, eUO, eNE, eIO]
def NCs (U : State) : Prop := ∀ a ∈ xcNames, ∀ b ∈ xcNames, a ≠ b → va_Nc a b U
theorem NCs.moved {u U : State} (hvm : u.vm.Alike U.vm) (h : NCs u) : NCs U := fun a ha b hb hn => (h a ha b hb hn).moved hvm
def AOs (U : State) : Prop := va_AO "YarnMill$Stock" U ∧ va_AO "YarnMill$Command" U
theorem AOs.moved {u U : State} (hvm : u.vm.Alike U.vm) (h : AOs u) : AOs U := ⟨h.1.moved hvm, h.2.moved hvm⟩
/-- the script: its length and its ints -/
abbrev Scr : Type := Nat × (Nat → Int32)
def scr (x : Ctx) : Scr := (xen x 5 1, fun j => nI (xen x 6 j))
def More (x : Ctx) (U : State) (H : Heap) : Prop := NCs U ∧ AOs U ∧ va_T .int (xen x 5 0) (scr x).1 (fun j => .int ((scr x).2 j)) (XA x) U H
theorem More.moved {x : Ctx} {u U : State} {H : Heap} (hvm : u.vm.Alike U.vm) (h : More x u H) : More x U H := ⟨h.1.moved hvm, h.2.1.moved hvm, va_T.moved hvm h.2.2⟩
theorem More.kept {x : Ctx} {U : State} {H H1 : Heap} (h : More x U H) (hq : ∀ a : Nat, a < H.size → ¬ XA x a → H1[a]? = H[a]?) : More x U H1 := ⟨h.1, h.2.1, va_T.kept h.2.2 hq⟩
def StrA (x : Ctx) (U : State) (H : Heap) (i : Nat) : Prop := va_O "java/lang/String" (xen x 3 i) (XA x) U H ∧ va_OF "java/lang/String" "coder" "B" (.int 0) (xen x 3 i) (XA x) U H ∧ va_OF "java/lang/String" "value" "[B" (.ref (xen x 4 i)) (xen x 3 i) (XA x) U H ∧ va_T .byte (xen x 4 i) (stLen.getD i 0) (fun j => .int ((stByt.getD i []).getD j 0)) (XA x) U H
def Stat2 (x : Ctx) (U : State) (H : Heap) : Prop :=
  (∀ i, i < 18 → StrA x U H i) ∧ (∀ i, i < 18 → vk_R (stTx.getD i ("", 0, "")).1 (stTx.getD i ("", 0, "")).2.1 (stTx.getD i ("", 0, "")).2.2 (xen x 3 i) U) ∧ (∀ j, j < 9 → va_OF "YarnMill$Command" "word" "Ljava/lang/String;" (.ref (xen x 3 j)) (xen x 0 j) (XA x) U H) ∧
  (∀ q ∈ exTx, ∃ sa, vk_R "YarnMill" q.1 q.2 sa U) ∧ vx_Zq Bundle.tN "UNASSIGNED_STACK" Bundle.steD (XA x) U H ∧ vx_Zq Bundle.tN "SUPPRESSED_SENTINEL" Bundle.listD (XA x) U H ∧
  va_Z "java/lang/String" "COMPACT_STRINGS" "Z" (.int 1) (XA x) U H ∧ (va_Z "java/lang/Integer" "DigitOnes" "[B" (.ref (xen x 2 2)) (XA x) U H ∧ va_T .byte (xen x 2 2) 100 (fun j => .int (digOnes j)) (XA x) U H) ∧ (va_Z "java/lang/Integer" "DigitTens" "[B" (.ref (xen x 2 3)) (XA x) U H ∧ va_T .byte (xen x 2 3) 100 (fun j => .int (digTens j)) (XA x) U H) ∧
  (va_Zq "jdk/internal/util/Preconditions" "SIOOBE_FORMATTER" "Ljava/util/function/BiFunction;" (XA x) U H ∧ More x U H)
theorem StrA.moved {x : Ctx} {u U : State} {H : Heap} {i : Nat} (hvm : u.vm.Alike U.vm) (h : StrA x u H i) : StrA x U H i := ⟨h.1.moved hvm, h.2.1.moved hvm, h.2.2.1.moved hvm, va_T.moved hvm h.2.2.2⟩
theorem StrA.kept {x : Ctx} {U : State} {H H1 : Heap} {i : Nat} (h : StrA x U H i) (hq : ∀ a : Nat, a < H.size → ¬ XA x a → H1[a]? = H[a]?) : StrA x U H1 i := ⟨h.1.kept hq, h.2.1.kept hq, h.2.2.1.kept hq, va_T.kept h.2.2.2 hq⟩
theorem Stat2.moved {x : Ctx} {u U : State} {H : Heap} (hW : u.WarmedH U.vm) (h : Stat2 x u H) : Stat2 x U H := by
  have hvm := hW.alike
  obtain ⟨h1, h2, h3, h4, h5, h6, h7, h8, h9, h10⟩ := h
  exact ⟨fun i hi => (h1 i hi).moved hvm, fun i hi => vk_R.warm hW (h2 i hi), fun j hj => (h3 j hj).moved hvm, fun q hq => (h4 q hq).imp fun _ z => vk_R.warm hW z, vx_Zq.moved hvm h5, vx_Zq.moved hvm h6, va_Z.moved hvm h7, ⟨va_Z.moved hvm h8.1, va_T.moved hvm h8.2⟩, ⟨va_Z.moved hvm h9.1, va_T.moved hvm h9.2⟩, ⟨va_Zq.moved hvm h10.1, h10.2.moved hvm⟩⟩
theorem Stat2.kept {x : Ctx} {U : State} {H H1 : Heap} (h : Stat2 x U H) (hq : ∀ a : Nat, a < H.size → ¬ XA x a → H1[a]? = H[a]?) : Stat2 x U H1 := by
  obtain ⟨h1, h2, h3, h4, h5, h6, h7, h8, h9, h10⟩ := h
  exact ⟨fun i hi => (h1 i hi).kept hq, h2, fun j hj => (h3 j hj).kept hq, h4, vx_Zq.kept h5 hq, vx_Zq.kept h6 hq, va_Z.kept h7 hq, ⟨va_Z.kept h8.1 hq, va_T.kept h8.2 hq⟩, ⟨va_Z.kept h9.1 hq, va_T.kept h9.2 hq⟩, ⟨va_Zq.kept h10.1 hq, h10.2.kept hq⟩⟩
def Stat (x : Ctx) (U : State) (H : Heap) : Prop :=
  va_En "YarnMill$Command" "LYarnMill$Command;" cmNames cmF (xen x 0) (XA x) U H ∧ va_En "YarnMill$Refusal" "LYarnMill$Refusal;" rfNames [] (xen x 1) (XA x) U H ∧
  (va_Z "YarnMill$1" "$SwitchMap$YarnMill$Command" "[I" (.ref (xen x 2 0)) (XA x) U H ∧ va_T .int (xen x 2 0) 9 (fun j => .int (nI (j + 1))) (XA x) U H) ∧
  (va_Z "YarnMill$Command" "ALL" "[LYarnMill$Command;" (.ref (xen x 2 1)) (XA x) U H ∧ va_T (.object "YarnMill$Command") (xen x 2 1) 9 (fun j => .ref (xen x 0 j)) (XA x) U H) ∧
  (∀ w ∈ lw_tbl, tabW w = true → va_Nw w U) ∧ Stat2 x U H
theorem Stat.moved {x : Ctx} {u U : State} {H : Heap} (hW : u.WarmedH U.vm) (h : Stat x u H) : Stat x U H :=
  have hvm := hW.alike
  ⟨h.1.moved hvm, h.2.1.moved hvm, ⟨va_Z.moved hvm h.2.2.1.1, va_T.moved hvm h.2.2.1.2⟩, ⟨va_Z.moved hvm h.2.2.2.1.1, va_T.moved hvm h.2.2.2.1.2⟩, fun w hw ht => tabW_warm ht hW (h.2.2.2.2.1 w hw ht), h.2.2.2.2.2.moved hW⟩
theorem Stat.kept {x : Ctx} {U : State} {H H1 : Heap} (h : Stat x U H) (hq : ∀ a : Nat, a < H.size → ¬ XA x a → H1[a]? = H[a]?) : Stat x U H1 :=
  ⟨h.1.kept hq, h.2.1.kept hq, ⟨va_Z.kept h.2.2.1.1 hq, va_T.kept h.2.2.1.2 hq⟩, ⟨va_Z.kept h.2.2.2.1.1 hq, va_T.kept h.2.2.2.1.2 hq⟩, h.2.2.2.2.1, h.2.2.2.2.2.kept hq⟩
/-- the statics over a smaller region -/
theorem Stat.ctx {x x' : Ctx} {U : State} {H : Heap} (he : ∀ f j, f < 30 → xen x' f j = xen x f j) (hA : ∀ a, ¬ XA x a → ¬ XA x' a) (h : Stat x U H) : Stat x' U H := by
  have e : ∀ f, f < 30 → xen x' f = xen x f := fun f hf => funext fun j => he f j hf
  have es : scr x' = scr x := by
    unfold scr
    rw [e 5 (by decide), e 6 (by decide)]
  have zO : ∀ {E : String} {t : Nat}, va_O E t (XA x) U H → va_O E t (XA x') U H := fun ⟨c, a1, a2, a3, a4⟩ => ⟨c, a1, a2, a3, hA _ a4⟩
  have zF : ∀ {o n d : String} {v : Value} {t : Nat}, va_OF o n d v t (XA x) U H → va_OF o n d v t (XA x') U H := fun ⟨a, b, c, d, z, a1, a2, a3, a4, a5, a6⟩ => ⟨a, b, c, d, z, a1, a2, a3, a4, a5, hA _ a6⟩
  have zT : ∀ {ty : FieldType} {t N : Nat} {f : Nat → Value}, va_T ty t N f (XA x) U H → va_T ty t N f (XA x') U H := fun ⟨c, a1, a2, a3, a4, a5, a6, a7⟩ => ⟨c, a1, a2, a3, a4, a5, a6, hA _ a7⟩
  have zZ : ∀ {C n d : String} {v : Value}, va_Z C n d v (XA x) U H → va_Z C n d v (XA x') U H := fun ⟨a, b, c, d, z, y, a1, a2, a3, a4, a5, a6, a7, a8⟩ => ⟨a, b, c, d, z, y, a1, a2, a3, a4, a5, a6, a7, hA _ a8⟩
  have zq : ∀ {C n d : String}, va_Zq C n d (XA x) U H → va_Zq C n d (XA x') U H := fun h => h.imp zZ (fun ⟨t, z⟩ => ⟨t, zZ z⟩)
  have zL : ∀ {C n d : String}, vx_L C n d (XA x) U H → vx_L C n d (XA x') U H := fun ⟨a, b, c, d, z, y, a1, a2, a3, a4, a5, a6, a7, a8, a9, a10⟩ => ⟨a, b, c, d, z, y, a1, a2, a3, a4, a5, a6, a7, a8, a9, hA _ a10⟩
  have zx : ∀ {C n d : String}, vx_Zq C n d (XA x) U H → vx_Zq C n d (XA x') U H := fun h => ⟨zq h.1, zL h.2⟩
  have zE : ∀ {E d : String} {nm : List String} {F : List (String × String × String × List Int32)} {ad : Nat → Nat}, va_En E d nm F ad (XA x) U H → va_En E d nm F ad (XA x') U H := fun h => ⟨fun i hi => ⟨zZ (h.1 i hi).1, zO (h.1 i hi).2.1, fun q hq => zF ((h.1 i hi).2.2 q hq)⟩, h.2⟩
  obtain ⟨h1, h2, h3, h4, h5, s1, s2, s3, s4, s5, s6, s7, s8, s9, s10, m1, m2, m3⟩ := h
  refine ⟨by rw [e 0 (by decide)]; exact zE h1, by rw [e 1 (by decide)]; exact zE h2, by rw [e 2 (by decide)]; exact ⟨zZ h3.1, zT h3.2⟩, by rw [e 2 (by decide), e 0 (by decide)]; exact ⟨zZ h4.1, zT h4.2⟩, h5, fun i hi => ?_, by rw [e 3 (by decide)]; exact s2, fun j hj => by rw [e 3 (by decide), e 0 (by decide)]; exact zF (s3 j hj), s4, zx s5, zx s6, zZ s7, by rw [e 2 (by decide)]; exact ⟨zZ s8.1, zT s8.2⟩, by rw [e 2 (by decide)]; exact ⟨zZ s9.1, zT s9.2⟩, zq s10, m1, m2, by rw [e 5 (by decide), es]; exact zT m3⟩
  obtain ⟨q1, q2, q3, q4⟩ := s1 i hi
  unfold StrA
  rw [e 3 (by decide), e 4 (by decide)]
  exact ⟨zO q1, zF q2, zF q3, zT q4⟩
