/-! THE LAW -/
theorem b_62 : Cond.methodLink "YarnMillLaw" 310 yX12_renderShelf ∈ lw_good := bB 62 (by decide +kernel) (by decide +kernel)
theorem b_63 : Cond.instanceMethod yX12_renderShelf ∈ lw_good := bB 63 (by decide +kernel) (by decide +kernel)
theorem b_64 : Cond.selects "YarnMill" yX12_renderShelf yX12_renderShelf ∈ lw_good := bB 64 (by decide +kernel) (by decide +kernel)
theorem b_65 : Cond.code yX12_renderShelf cX12_renderShelf 2 (some .int) ∈ lw_good := bB 65 (by decide +kernel) (by decide +kernel)
theorem b_477 : Cond.methodLink "YarnMillLaw" 297 yX12_save ∈ lw_good := bB 477 (by decide +kernel) (by decide +kernel)
theorem b_478 : Cond.instanceMethod yX12_save ∈ lw_good := bB 478 (by decide +kernel) (by decide +kernel)
theorem b_479 : Cond.selects "YarnMill" yX12_save yX12_save ∈ lw_good := bB 479 (by decide +kernel) (by decide +kernel)
theorem b_480 : Cond.code yX12_save cX12_save 1 (some .int) ∈ lw_good := bB 480 (by decide +kernel) (by decide +kernel)
theorem b_845 : Cond.methodLink "YarnMillLaw" 313 yL_orderByTime ∈ lw_good := bB 845 (by decide +kernel) (by decide +kernel)
theorem b_846 : Cond.static yL_orderByTime ∈ lw_good := bB 846 (by decide +kernel) (by decide +kernel)
theorem b_847 : Cond.codeWith yL_orderByTime cL_orderByTime 3 (some .int) [((0 : Nat), (5 : Nat), (6 : Nat), (35 : Nat))] ∈ lw_good := bB 847 (by decide +kernel) (by decide +kernel)
theorem b_871 : Cond.methodLink "YarnMillLaw" 306 yL_longestPiece ∈ lw_good := bB 871 (by decide +kernel) (by decide +kernel)
theorem b_872 : Cond.static yL_longestPiece ∈ lw_good := bB 872 (by decide +kernel) (by decide +kernel)
theorem b_873 : Cond.codeWith yL_longestPiece cL_longestPiece 2 (some .int) [((0 : Nat), (4 : Nat), (5 : Nat), (35 : Nat))] ∈ lw_good := bB 873 (by decide +kernel) (by decide +kernel)
theorem b_883 : Cond.methodLink "YarnMillLaw" 308 yL_pieceByLength ∈ lw_good := bB 883 (by decide +kernel) (by decide +kernel)
theorem b_884 : Cond.static yL_pieceByLength ∈ lw_good := bB 884 (by decide +kernel) (by decide +kernel)
theorem b_885 : Cond.codeWith yL_pieceByLength cL_pieceByLength 3 (some .int) [((0 : Nat), (5 : Nat), (6 : Nat), (35 : Nat))] ∈ lw_good := bB 885 (by decide +kernel) (by decide +kernel)
theorem b_890 : Cond.methodLink "YarnMillLaw" 295 yL_undo ∈ lw_good := bB 890 (by decide +kernel) (by decide +kernel)
theorem b_891 : Cond.static yL_undo ∈ lw_good := bB 891 (by decide +kernel) (by decide +kernel)
theorem b_892 : Cond.codeWith yL_undo cL_undo 2 (some .int) [((0 : Nat), (4 : Nat), (5 : Nat), (35 : Nat))] ∈ lw_good := bB 892 (by decide +kernel) (by decide +kernel)
theorem b_906 : Cond.methodLink "YarnMillLaw" 315 yL_restore ∈ lw_good := bB 906 (by decide +kernel) (by decide +kernel)
theorem b_907 : Cond.static yL_restore ∈ lw_good := bB 907 (by decide +kernel) (by decide +kernel)
theorem b_908 : Cond.codeWith yL_restore cL_restore 2 (some .int) [((0 : Nat), (4 : Nat), (5 : Nat), (18 : Nat))] ∈ lw_good := bB 908 (by decide +kernel) (by decide +kernel)
theorem b_918 : Cond.methodLink "YarnMillLaw" 303 yL_isIn ∈ lw_good := bB 918 (by decide +kernel) (by decide +kernel)
theorem b_919 : Cond.static yL_isIn ∈ lw_good := bB 919 (by decide +kernel) (by decide +kernel)
theorem b_920 : Cond.codeWith yL_isIn cL_isIn 5 (some .int) [((0 : Nat), (15 : Nat), (16 : Nat), (35 : Nat)), ((0 : Nat), (15 : Nat), (21 : Nat), (15 : Nat)), ((0 : Nat), (15 : Nat), (26 : Nat), (21 : Nat))] ∈ lw_good := bB 920 (by decide +kernel) (by decide +kernel)
theorem b_944 : Cond.methodLink "YarnMillLaw" 274 yL_begun ∈ lw_good := bB 944 (by decide +kernel) (by decide +kernel)
theorem b_945 : Cond.static yL_begun ∈ lw_good := bB 945 (by decide +kernel) (by decide +kernel)
theorem b_946 : Cond.code yL_begun cL_begun 4 (some (.object "YarnMill")) ∈ lw_good := bB 946 (by decide +kernel) (by decide +kernel)
theorem b_1243 : Cond.methodLink "YarnMillLaw" 300 yL_bale ∈ lw_good := bB 1243 (by decide +kernel) (by decide +kernel)
theorem b_1244 : Cond.static yL_bale ∈ lw_good := bB 1244 (by decide +kernel) (by decide +kernel)
theorem b_1245 : Cond.code yL_bale cL_bale 2 (some .int) ∈ lw_good := bB 1245 (by decide +kernel) (by decide +kernel)
theorem b_1267 : Cond.methodLink "YarnMillLaw" 286 yL_acts ∈ lw_good := bB 1267 (by decide +kernel) (by decide +kernel)
theorem b_1268 : Cond.static yL_acts ∈ lw_good := bB 1268 (by decide +kernel) (by decide +kernel)
theorem b_1269 : Cond.code yL_acts cL_acts 6 (some .int) ∈ lw_good := bB 1269 (by decide +kernel) (by decide +kernel)
theorem b_1424 : Cond.methodLink "YarnMillLaw" 282 yL_seen ∈ lw_good := bB 1424 (by decide +kernel) (by decide +kernel)
theorem b_1425 : Cond.static yL_seen ∈ lw_good := bB 1425 (by decide +kernel) (by decide +kernel)
theorem b_1426 : Cond.code yL_seen cL_seen 4 (some (.array .int)) ∈ lw_good := bB 1426 (by decide +kernel) (by decide +kernel)
theorem b_1495 : Cond.methodLink "YarnMillLaw" 291 yL_areAlike ∈ lw_good := bB 1495 (by decide +kernel) (by decide +kernel)
theorem b_1496 : Cond.static yL_areAlike ∈ lw_good := bB 1496 (by decide +kernel) (by decide +kernel)
theorem b_1497 : Cond.code yL_areAlike cL_areAlike 3 (some .boolean) ∈ lw_good := bB 1497 (by decide +kernel) (by decide +kernel)
theorem b_1498 : Cond.methodLink "YarnMillLaw" 278 yL_isWell ∈ lw_good := bB 1498 (by decide +kernel) (by decide +kernel)
theorem b_1499 : Cond.static yL_isWell ∈ lw_good := bB 1499 (by decide +kernel) (by decide +kernel)
theorem b_1500 : Cond.code yL_isWell cL_isWell 12 (some .boolean) ∈ lw_good := bB 1500 (by decide +kernel) (by decide +kernel)
theorem b_1632 : Cond.constant "YarnMillLaw" 290 (-900000 : Int32) ∈ lw_good := bB 1632 (by decide +kernel) (by decide +kernel)
theorem gc_YLaw_297 {K : Fr} {cells slots : Nat} {σ : Mem} {cc : ByteArray} {nL pc fr lo mc ms : Nat} {ret : Option FieldType} {Qm : Option Value → Mem → Prop} {E : String → Mem → Prop} {lv : List (Option Value)} {st : List Value} (B : Bd K cc "YarnMillLaw" nL ret fr lo mc ms Qm E)    {Q : Int32 → Mem → Prop} (hM : MetG (fL K) (fX K) yX12_save cX12_save 1 (some .int) 4 123 0 0 [.ref (xad (fX K) 14 0)] σ (RI Q) E) (hfr : 5 ≤ fr) (hlo : 143 ≤ lo) (hst : (st.map fun v => v.category).sum ≤ 8) (hc : cells ≤ mc) (hs : slots ≤ ms) (hdg : decode cc pc = .ok (.invokevirtual 297, 3)) {np : Nat} (hp : pc + 3 = np) (kk : ∀ (r : Int32) (τ : Mem), Q r τ → Go K cells slots τ np lv (.int r :: st)) : Go K cells slots σ pc lv (.ref (xad (fX K) 14 0) :: st) := g_callV B 14 0 (by decide : (0 : Nat) < 1) rfl rfl rfl hM b_480 b_477 b_478 b_479 b_26 (n := 0) (by decide +kernel) rfl hfr hlo hst hdg hc hs (fun _ _ q => q) hp (fun r τ ⟨i, e, q⟩ => by subst e; exact kk i τ q)
theorem gc_YLaw_300 {K : Fr} {cells slots : Nat} {σ : Mem} {cc : ByteArray} {nL pc fr lo mc ms : Nat} {ret : Option FieldType} {Qm : Option Value → Mem → Prop} {E : String → Mem → Prop} {lv : List (Option Value)} {st : List Value} (B : Bd K cc "YarnMillLaw" nL ret fr lo mc ms Qm E)   {a2 : Int32} {Q : Int32 → Mem → Prop} (hM : MetG (fL K) (fX K) yL_bale cL_bale 2 (some .int) 7 103 1 6 [.ref (xad (fX K) 14 0), .int a2] σ (RI Q) E) (hfr : 8 ≤ fr) (hlo : 124 ≤ lo) (hst : (st.map fun v => v.category).sum ≤ 8) (hc : cells + 1 ≤ mc) (hs : slots + 6 ≤ ms) (hdg : decode cc pc = .ok (.invokestatic 300, 3)) {np : Nat} (hp : pc + 3 = np) (kk : ∀ (r : Int32) (τ : Mem), Q r τ → Go K (cells + 1) (slots + 6) τ np lv (.int r :: st)) : Go K cells slots σ pc lv (.int a2 :: .ref (xad (fX K) 14 0) :: st) := g_callS B (n := 2) hM b_1245 b_1243 b_1244 b_25 (by decide +kernel) rfl hfr hlo hst hdg hc hs (fun _ _ q => q) hp (fun r τ ⟨i, e, q⟩ => by subst e; exact kk i τ q)
theorem gc_YLaw_303 {K : Fr} {cells slots : Nat} {σ : Mem} {cc : ByteArray} {nL pc fr lo mc ms : Nat} {ret : Option FieldType} {Qm : Option Value → Mem → Prop} {E : String → Mem → Prop} {lv : List (Option Value)} {st : List Value} (B : Bd K cc "YarnMillLaw" nL ret fr lo mc ms Qm E)   {a2 : Int32} {a3 : Int32} {a4 : Int32} {Q : Int32 → Mem → Prop} (hM : MetH (fL K) (fX K) yL_isIn cL_isIn 5 [(0, 15, 16, 35), (0, 15, 21, 15), (0, 15, 26, 21)] 8 129 3 18 [.ref (xad (fX K) 14 0), .int a2, .int a3, .int a4] σ (RI Q)) (hfr : 9 ≤ fr) (hlo : 153 ≤ lo) (hst : (st.map fun v => v.category).sum ≤ 8) (hc : cells + 3 ≤ mc) (hs : slots + 18 ≤ ms) (hdg : decode cc pc = .ok (.invokestatic 303, 3)) {np : Nat} (hp : pc + 3 = np) (kk : ∀ (r : Int32) (τ : Mem), Q r τ → Go K (cells + 3) (slots + 18) τ np lv (.int r :: st)) : Go K cells slots σ pc lv (.int a4 :: .int a3 :: .int a2 :: .ref (xad (fX K) 14 0) :: st) := g_callSH B (n := 4) hM b_920 b_918 b_919 b_25 (by decide +kernel) rfl hfr hlo hst hdg hc hs hp (fun r τ ⟨i, e, q⟩ => by subst e; exact kk i τ q)
theorem gc_YLaw_306 {K : Fr} {cells slots : Nat} {σ : Mem} {cc : ByteArray} {nL pc fr lo mc ms : Nat} {ret : Option FieldType} {Qm : Option Value → Mem → Prop} {E : String → Mem → Prop} {lv : List (Option Value)} {st : List Value} (B : Bd K cc "YarnMillLaw" nL ret fr lo mc ms Qm E)    {Q : Int32 → Mem → Prop} (hM : MetH (fL K) (fX K) yL_longestPiece cL_longestPiece 2 [(0, 4, 5, 35)] 7 102 1 6 [.ref (xad (fX K) 14 0)] σ (RI Q)) (hfr : 8 ≤ fr) (hlo : 123 ≤ lo) (hst : (st.map fun v => v.category).sum ≤ 8) (hc : cells + 1 ≤ mc) (hs : slots + 6 ≤ ms) (hdg : decode cc pc = .ok (.invokestatic 306, 3)) {np : Nat} (hp : pc + 3 = np) (kk : ∀ (r : Int32) (τ : Mem), Q r τ → Go K (cells + 1) (slots + 6) τ np lv (.int r :: st)) : Go K cells slots σ pc lv (.ref (xad (fX K) 14 0) :: st) := g_callSH B (n := 1) hM b_873 b_871 b_872 b_25 (by decide +kernel) rfl hfr hlo hst hdg hc hs hp (fun r τ ⟨i, e, q⟩ => by subst e; exact kk i τ q)
theorem gc_YLaw_308 {K : Fr} {cells slots : Nat} {σ : Mem} {cc : ByteArray} {nL pc fr lo mc ms : Nat} {ret : Option FieldType} {Qm : Option Value → Mem → Prop} {E : String → Mem → Prop} {lv : List (Option Value)} {st : List Value} (B : Bd K cc "YarnMillLaw" nL ret fr lo mc ms Qm E)   {a2 : Int32} {Q : Int32 → Mem → Prop} (hM : MetH (fL K) (fX K) yL_pieceByLength cL_pieceByLength 3 [(0, 5, 6, 35)] 8 125 1 6 [.ref (xad (fX K) 14 0), .int a2] σ (RI Q)) (hfr : 9 ≤ fr) (hlo : 147 ≤ lo) (hst : (st.map fun v => v.category).sum ≤ 8) (hc : cells + 1 ≤ mc) (hs : slots + 6 ≤ ms) (hdg : decode cc pc = .ok (.invokestatic 308, 3)) {np : Nat} (hp : pc + 3 = np) (kk : ∀ (r : Int32) (τ : Mem), Q r τ → Go K (cells + 1) (slots + 6) τ np lv (.int r :: st)) : Go K cells slots σ pc lv (.int a2 :: .ref (xad (fX K) 14 0) :: st) := g_callSH B (n := 2) hM b_885 b_883 b_884 b_25 (by decide +kernel) rfl hfr hlo hst hdg hc hs hp (fun r τ ⟨i, e, q⟩ => by subst e; exact kk i τ q)
theorem gc_YLaw_310 {K : Fr} {cells slots : Nat} {σ : Mem} {cc : ByteArray} {nL pc fr lo mc ms : Nat} {ret : Option FieldType} {Qm : Option Value → Mem → Prop} {E : String → Mem → Prop} {lv : List (Option Value)} {st : List Value} (B : Bd K cc "YarnMillLaw" nL ret fr lo mc ms Qm E)    {Q : Int32 → Mem → Prop} (hM : MetG (fL K) (fX K) yX12_renderShelf cX12_renderShelf 2 (some .int) 9 266 27 8154 [.ref (xad (fX K) 14 0)] σ (RI Q) E) (hfr : 10 ≤ fr) (hlo : 287 ≤ lo) (hst : (st.map fun v => v.category).sum ≤ 8) (hc : cells + 27 ≤ mc) (hs : slots + 8154 ≤ ms) (hdg : decode cc pc = .ok (.invokevirtual 310, 3)) {np : Nat} (hp : pc + 3 = np) (kk : ∀ (r : Int32) (τ : Mem), Q r τ → Go K (cells + 27) (slots + 8154) τ np lv (.int r :: st)) : Go K cells slots σ pc lv (.ref (xad (fX K) 14 0) :: st) := g_callV B 14 0 (by decide : (0 : Nat) < 1) rfl rfl rfl hM b_65 b_62 b_63 b_64 b_26 (n := 0) (by decide +kernel) rfl hfr hlo hst hdg hc hs (fun _ _ q => q) hp (fun r τ ⟨i, e, q⟩ => by subst e; exact kk i τ q)
theorem gc_YLaw_313 {K : Fr} {cells slots : Nat} {σ : Mem} {cc : ByteArray} {nL pc fr lo mc ms : Nat} {ret : Option FieldType} {Qm : Option Value → Mem → Prop} {E : String → Mem → Prop} {lv : List (Option Value)} {st : List Value} (B : Bd K cc "YarnMillLaw" nL ret fr lo mc ms Qm E)   {a2 : Int32} {Q : Int32 → Mem → Prop} (hM : MetH (fL K) (fX K) yL_orderByTime cL_orderByTime 3 [(0, 5, 6, 35)] 8 125 1 6 [.ref (xad (fX K) 14 0), .int a2] σ (RI Q)) (hfr : 9 ≤ fr) (hlo : 147 ≤ lo) (hst : (st.map fun v => v.category).sum ≤ 8) (hc : cells + 1 ≤ mc) (hs : slots + 6 ≤ ms) (hdg : decode cc pc = .ok (.invokestatic 313, 3)) {np : Nat} (hp : pc + 3 = np) (kk : ∀ (r : Int32) (τ : Mem), Q r τ → Go K (cells + 1) (slots + 6) τ np lv (.int r :: st)) : Go K cells slots σ pc lv (.int a2 :: .ref (xad (fX K) 14 0) :: st) := g_callSH B (n := 2) hM b_847 b_845 b_846 b_25 (by decide +kernel) rfl hfr hlo hst hdg hc hs hp (fun r τ ⟨i, e, q⟩ => by subst e; exact kk i τ q)
theorem gc_YLaw_291 {K : Fr} {cells slots : Nat} {σ : Mem} {cc : ByteArray} {nL pc fr lo mc ms : Nat} {ret : Option FieldType} {Qm : Option Value → Mem → Prop} {E : String → Mem → Prop} {lv : List (Option Value)} {st : List Value} (B : Bd K cc "YarnMillLaw" nL ret fr lo mc ms Qm E) (k : Nat) (k2 : Nat) (hk : k < oCnt (fX K) 19) (hk2 : k2 < oCnt (fX K) 19)  {Q : Int32 → Mem → Prop} (hM : MetG (fL K) (fX K) yL_areAlike cL_areAlike 3 (some .boolean) 0 0 0 0 [.ref (xad (fX K) 19 k), .ref (xad (fX K) 19 k2)] σ (RI Q) E) (hfr : 1 ≤ fr) (hlo : 22 ≤ lo) (hst : (st.map fun v => v.category).sum ≤ 8) (hc : cells ≤ mc) (hs : slots ≤ ms) (hdg : decode cc pc = .ok (.invokestatic 291, 3)) {np : Nat} (hp : pc + 3 = np) (kk : ∀ (r : Int32) (τ : Mem), Q r τ → Go K cells slots τ np lv (.int r :: st)) : Go K cells slots σ pc lv (.ref (xad (fX K) 19 k2) :: .ref (xad (fX K) 19 k) :: st) := g_callS B (n := 2) hM b_1497 b_1495 b_1496 b_25 (by decide +kernel) rfl hfr hlo hst hdg hc hs (fun _ _ q => q) hp (fun r τ ⟨i, e, q⟩ => by subst e; exact kk i τ q)
theorem gc_YLaw_315 {K : Fr} {cells slots : Nat} {σ : Mem} {cc : ByteArray} {nL pc fr lo mc ms : Nat} {ret : Option FieldType} {Qm : Option Value → Mem → Prop} {E : String → Mem → Prop} {lv : List (Option Value)} {st : List Value} (B : Bd K cc "YarnMillLaw" nL ret fr lo mc ms Qm E)    {Q : Int32 → Mem → Prop} (hM : MetH (fL K) (fX K) yL_restore cL_restore 2 [(0, 4, 5, 18)] 7 143 1 6 [.ref (xad (fX K) 14 0)] σ (RI Q)) (hfr : 8 ≤ fr) (hlo : 164 ≤ lo) (hst : (st.map fun v => v.category).sum ≤ 8) (hc : cells + 1 ≤ mc) (hs : slots + 6 ≤ ms) (hdg : decode cc pc = .ok (.invokestatic 315, 3)) {np : Nat} (hp : pc + 3 = np) (kk : ∀ (r : Int32) (τ : Mem), Q r τ → Go K (cells + 1) (slots + 6) τ np lv (.int r :: st)) : Go K cells slots σ pc lv (.ref (xad (fX K) 14 0) :: st) := g_callSH B (n := 1) hM b_908 b_906 b_907 b_25 (by decide +kernel) rfl hfr hlo hst hdg hc hs hp (fun r τ ⟨i, e, q⟩ => by subst e; exact kk i τ q)
theorem gc_YLaw_295 {K : Fr} {cells slots : Nat} {σ : Mem} {cc : ByteArray} {nL pc fr lo mc ms : Nat} {ret : Option FieldType} {Qm : Option Value → Mem → Prop} {E : String → Mem → Prop} {lv : List (Option Value)} {st : List Value} (B : Bd K cc "YarnMillLaw" nL ret fr lo mc ms Qm E)    {Q : Int32 → Mem → Prop} (hM : MetH (fL K) (fX K) yL_undo cL_undo 2 [(0, 4, 5, 35)] 7 165 1 6 [.ref (xad (fX K) 14 0)] σ (RI Q)) (hfr : 8 ≤ fr) (hlo : 186 ≤ lo) (hst : (st.map fun v => v.category).sum ≤ 8) (hc : cells + 1 ≤ mc) (hs : slots + 6 ≤ ms) (hdg : decode cc pc = .ok (.invokestatic 295, 3)) {np : Nat} (hp : pc + 3 = np) (kk : ∀ (r : Int32) (τ : Mem), Q r τ → Go K (cells + 1) (slots + 6) τ np lv (.int r :: st)) : Go K cells slots σ pc lv (.ref (xad (fX K) 14 0) :: st) := g_callSH B (n := 1) hM b_892 b_890 b_891 b_25 (by decide +kernel) rfl hfr hlo hst hdg hc hs hp (fun r τ ⟨i, e, q⟩ => by subst e; exact kk i τ q)
theorem gc_YLaw_286 {K : Fr} {cells slots : Nat} {σ : Mem} {cc : ByteArray} {nL pc fr lo mc ms : Nat} {ret : Option FieldType} {Qm : Option Value → Mem → Prop} {E : String → Mem → Prop} {lv : List (Option Value)} {st : List Value} (B : Bd K cc "YarnMillLaw" nL ret fr lo mc ms Qm E) (S : Scr) (hS : scr (fX K) = S) (hT : Tmp (fX K)) {a3 : Int32} {Q : Int32 → Mem → Prop} (hM : MetG (fL K) (fX K) yL_acts cL_acts 6 (some .int) 13 350 72 20324 [.ref (xad (fX K) 14 0), .ref (xen (fX K) 5 0), .int a3] σ (RI Q) E) (hfr : 14 ≤ fr) (hlo : 375 ≤ lo) (hst : (st.map fun v => v.category).sum ≤ 8) (hc : cells + 72 ≤ mc) (hs : slots + 20324 ≤ ms) (hdg : decode cc pc = .ok (.invokestatic 286, 3)) {np : Nat} (hp : pc + 3 = np) (kk : ∀ (r : Int32) (τ : Mem), Q r τ → Go K (cells + 72) (slots + 20324) τ np lv (.int r :: st)) : Go K cells slots σ pc lv (.int a3 :: .ref (xen (fX K) 5 0) :: .ref (xad (fX K) 14 0) :: st) := g_callS B (n := 3) hM b_1269 b_1267 b_1268 b_25 (by decide +kernel) rfl hfr hlo hst hdg hc hs (fun _ _ q => q) hp (fun r τ ⟨i, e, q⟩ => by subst e; exact kk i τ q)
theorem gc_YLaw_278 {K : Fr} {cells slots : Nat} {σ : Mem} {cc : ByteArray} {nL pc fr lo mc ms : Nat} {ret : Option FieldType} {Qm : Option Value → Mem → Prop} {E : String → Mem → Prop} {lv : List (Option Value)} {st : List Value} (B : Bd K cc "YarnMillLaw" nL ret fr lo mc ms Qm E)   {a2 : Int32} {a3 : Int32} {Q : Int32 → Mem → Prop} (hM : MetG (fL K) (fX K) yL_isWell cL_isWell 12 (some .boolean) 17 442 186 1116 [.ref (xad (fX K) 14 0), .int a2, .int a3] σ (RI Q) E) (hfr : 18 ≤ fr) (hlo : 473 ≤ lo) (hst : (st.map fun v => v.category).sum ≤ 8) (hc : cells + 186 ≤ mc) (hs : slots + 1116 ≤ ms) (hdg : decode cc pc = .ok (.invokestatic 278, 3)) {np : Nat} (hp : pc + 3 = np) (kk : ∀ (r : Int32) (τ : Mem), Q r τ → Go K (cells + 186) (slots + 1116) τ np lv (.int r :: st)) : Go K cells slots σ pc lv (.int a3 :: .int a2 :: .ref (xad (fX K) 14 0) :: st) := g_callS B (n := 3) hM b_1500 b_1498 b_1499 b_25 (by decide +kernel) rfl hfr hlo hst hdg hc hs (fun _ _ q => q) hp (fun r τ ⟨i, e, q⟩ => by subst e; exact kk i τ q)
theorem fit {s T K m : Nat} (h : s + T ≤ m) (hk : K ≤ T) : s + K ≤ m := Nat.le_trans (Nat.add_le_add_left hk s) h
theorem fit0 {s T m : Nat} (h : s + T ≤ m) : s ≤ m := Nat.le_trans (Nat.le_add_right s T) h
theorem fitT {s n A M m : Nat} (h : s + ((n + 1) * A + M) ≤ m) : s + (A + M) ≤ m := by
  rw [Nat.add_mul, Nat.one_mul] at h
  omega
theorem fitU {s n A M m : Nat} (h : s + ((n + 1) * A + M) ≤ m) : s + A + (n * A + M) ≤ m := by
  rw [Nat.add_mul, Nat.one_mul] at h
  omega
theorem g_ldcw {K : Fr} {cells slots : Nat} {σ : Mem} {cc : ByteArray} {own : String} {nL pc : Nat} {lv : List (Option Value)} {st : List Value} (F : Fx K cc own nL) {i : Nat} {v : Int32} (hc : Jvm.Cond.constant own i v ∈ lw_good) (hdg : decode cc pc = .ok (.ldc_w i, 3)) {np : Nat} (hp : pc + 3 = np) (kk : Go K cells slots σ np lv (.int v :: st)) : Go K cells slots σ pc lv st := by
  subst hp
  exact fun H locs ls hC hD hS hL => lv_ldcw F.x F.b F.o (F.w _ hc) hdg (kk H locs ls hC hD hS hL)
section LW9
variable {K : Fr} {cells slots : Nat} {σ : Mem} {cc : ByteArray} {nL pc fr lo mc ms : Nat} {ret : Option FieldType} {Qm : Option Value → Mem → Prop} {Em : String → Mem → Prop} {lv : List (Option Value)} {st : List Value}
theorem good_s {y' : MethodName} {cc' : ByteArray} {maxL' : Nat} {ret' : Option FieldType} (hcode : Cond.code y' cc' maxL' ret' ∈ lw_good) : GoodIn lw_good (Cond.code y' cc' maxL' ret' :: lw_good) := by
  intro w hw
  have h2 : w ∈ lw_good := by
    rcases List.mem_cons.mp hw with e | e
    · rw [e]; exact hcode
    · exact e
  exact ⟨h2, good_of_word (List.mem_filter.mp h2).2⟩
theorem va_S.more {A : Nat → Prop} {H0 H : Heap} {locs L : List Loc} {st₀ t T' : State} (hS : va_S A H0 H locs) (h0 : st₀.heap = H) (e1 : T'.heap = t.heap) (hz : va_F A st₀ t) (hfl : ∀ q ∈ L, A q.base) : va_S A H0 T'.heap (locs ++ L) := by
  refine ⟨?_, ?_, ?_⟩
  · rw [e1]
    exact Nat.le_trans hS.1 (by have := hz.1; rw [h0] at this; exact this)
  · intro q h1 h2
    rw [e1]
    have h3 := hz.2 q (by rw [h0]; exact Nat.lt_of_lt_of_le h1 hS.1) h2
    rw [h3, h0]
    exact hS.2.1 q h1 h2
  · intro z hzz
    rcases List.mem_append.mp hzz with h | h
    · exact hS.2.2 z h
    · exact hfl z h
/-- seen: the context grows by one array -/
theorem g_callSeen {Q : Mem → Prop} (B : Bd K cc "YarnMillLaw" nL ret fr lo mc ms Qm Em) {k : Nat} (hk : k = xen (fX K) 30 1) (h : wL_seen k σ Q (fun _ _ => False)) (hfr : 9 ≤ fr) (hlo : 8 + (4 + 11) + 125 ≤ lo) (hst : (st.map fun v => v.category).sum ≤ 8) (hc : cells + 118 ≤ mc) (hs : slots + 812 ≤ ms) (hdg : decode cc pc = .ok (.invokestatic 282, 3)) {np : Nat} (hp : pc + 3 = np)
    (kk : ∀ K' : Fr, Bd K' cc "YarnMillLaw" nL ret fr lo mc ms Qm Em → Ext (fX K) (fX K') → xen (fX K') 30 1 = k + 1 → (xen (fX K') 30 0 = xen (fX K) 30 0 ∧ xen (fX K') 30 2 = xen (fX K) 30 2 ∧ xen (fX K') 30 3 = xen (fX K) 30 3) → ∀ σ' : Mem, Q σ' → Go K' (cells + 118) (slots + 812) σ' np lv (.ref (xad (fX K') 19 k) :: st)) : Go K cells slots σ pc lv (.ref (xad (fX K) 14 0) :: st) := by
  subst hp
  intro H locs ls hC hD hS hL
  have F := B.1
  have hfx : CallFix (fP K) (fM K) (fC K) cc nL (fS K) (fA K) lw_good "YarnMillLaw" := ⟨F.x, F.b, F.ml.trans F.n, F.o, F.w⟩
  have hR : fR K = ({ frames := fr, cells := mc, slots := ms, locals := lo } : Room) := B.2.1
  have run : va_Run (fP K) (fL K) (fE K) (fR K) (fS K) (fM K) (fA K) (fB K) (fMe K) (fC K) H locs cells slots 118 812 (F0 (fM K) pc ls (.ref (xad (fX K) 14 0) :: st)) st (QNS (fX K) Q ([.ref (xad (fX K) 14 0)] : List Value).toArray) (XA (fX K)) :=
    va_runS (g := F0 (fM K) pc ls (.ref (xad (fX K) 14 0) :: st)) (As := [.ref (xad (fX K) 14 0)]) (rest := st) (cells := cells) (slots := slots) (H := H) (locs := locs) hfx (oL_seen (l := fL K) (x := fX K) B.1.tr k hk σ Q h) ⟨callB_of 1 F.w (good_s b_1426) rfl rfl rfl (F.w _ b_25) (F.w _ b_1424) (by decide +kernel) ⟨by rw [hR]; exact hfr, by rw [hR]; exact hlo⟩, F.w _ b_1425⟩
      ⟨fun a U g mk q => ⟨q.1, q.2.moved (State.WarmedH.refl U) rfl⟩, fun U hU hW => ⟨rfl, bd_wd F hC hD hS hU hW⟩⟩ rfl rfl (hL.1.trans F.n) rfl (lv_room hst) hdg (by rw [hR]; exact ⟨hc, hs⟩)
  intro T hT X
  obtain ⟨v, st₀, t, T', L, h0, X', hfl, e1, e2, ⟨⟨a, τ, hv, hq, hC1, hD1⟩, hz⟩, hgo⟩ := run T hT X
  cases hv
  have hS' := hS.more h0 e1 hz hfl
  have hE := ext_AR (fX K) a
  have had : xad (xAR (fX K) a) 19 k = a := by
    subst hk
    exact if_pos ⟨rfl, rfl⟩
  have hk1 : xen (xAR (fX K) a) 30 1 = k + 1 := by
    subst hk
    rfl
  have go := kk (setX K (xAR (fX K) a)) (B.set hE (fun _ _ q => q)) hE hk1 ⟨rfl, rfl, rfl⟩ τ hq
  have e9 : (Value.ref (xad (fX (setX K (xAR (fX K) a))) 19 k)) = .ref a := congrArg Value.ref had
  rw [e9] at go
  obtain ⟨t2, a1, b1⟩ := go T'.heap (locs ++ L) ls (by rw [e1]; exact hC1) hD1 hS' hL T' rfl X'
  exact ⟨t2, hgo t2 a1, b1⟩
/-- begun: the world, out of nothing -/
theorem g_callBegun {Q : Mem → Prop} (B : Bd K cc "YarnMillLaw" nL ret fr lo mc ms Qm Em) (hH : (fS K).heap.size = xb (fX K)) (hao : AOs (fS K))
    (hM : Met (fL K) yL_begun (Cond.code yL_begun cL_begun 4 (some (.object "YarnMill")) :: lw_good) ({ frames := 10, cells := 320, slots := 5977, locals := 216 }) (va_Pc [.ref (xen (fX K) 5 0)] (RWd (fX K) [])) (QMB (fX K) Q) 320 5977 (XA (fX K)))
    (hfr : 11 ≤ fr) (hlo : 8 + (4 + 11) + 216 ≤ lo) (hc : 320 ≤ mc) (hs : 5977 ≤ ms) (hdg : decode cc pc = .ok (.invokestatic 274, 3)) {np : Nat} (hp : pc + 3 = np)
    (kk : ∀ σ' : Mem, Q σ' → Go K 320 5977 σ' np lv [.ref (xad (fX K) 14 0)]) : GoC K 0 0 [] pc lv [.ref (xen (fX K) 5 0)] := by
  subst hp
  intro H locs ls hR0 hS hL
  have F := B.1
  have hfx : CallFix (fP K) (fM K) (fC K) cc nL (fS K) (fA K) lw_good "YarnMillLaw" := ⟨F.x, F.b, F.ml.trans F.n, F.o, F.w⟩
  have hR : fR K = ({ frames := fr, cells := mc, slots := ms, locals := lo } : Room) := B.2.1
  have run : va_Run (fP K) (fL K) (fE K) (fR K) (fS K) (fM K) (fA K) (fB K) (fMe K) (fC K) H locs 0 0 320 5977 (F0 (fM K) pc ls [.ref (xen (fX K) 5 0)]) [] (QMB (fX K) Q ([.ref (xen (fX K) 5 0)] : List Value).toArray) (XA (fX K)) :=
    va_runS (g := F0 (fM K) pc ls [.ref (xen (fX K) 5 0)]) (As := [.ref (xen (fX K) 5 0)]) (rest := []) (cells := 0) (slots := 0) (H := H) (locs := locs) hfx hM ⟨callB_of 1 F.w (good_s b_946) rfl rfl rfl (F.w _ b_25) (F.w _ b_944) (by decide +kernel) ⟨by rw [hR]; exact hfr, by rw [hR]; exact hlo⟩, F.w _ b_945⟩
      ⟨fun a U g mk q => ⟨q.1, q.2.moved (State.WarmedH.refl U) rfl⟩, fun U hU hW => ⟨rfl, by rw [hU]; exact hR0, F.k.moved hW.alike, by rw [hU]; exact (F.s.moved hW).kept (fun a h1 h2 => hS.2.1 a h1 h2), hao.1.moved hW.alike, hao.2.moved hW.alike⟩⟩ rfl rfl (hL.1.trans F.n) rfl (lv_room (Nat.le_of_ble_eq_true rfl)) hdg (by rw [hR]; exact ⟨by omega, by omega⟩)
  intro T hT X
  obtain ⟨v, st₀, t, T', L, h0, X', hfl, e1, e2, ⟨⟨τ, hv, hq, hC1, hD1⟩, hz⟩, hgo⟩ := run T hT X
  cases hv
  have hS' := hS.more h0 e1 hz hfl
  obtain ⟨t2, a1, b1⟩ := kk τ hq T'.heap (locs ++ L) ls (by rw [e1]; exact hC1) hD1 hS' hL T' rfl X'
  exact ⟨t2, hgo t2 a1, b1⟩
end LW9
def wL_law_159 (S : Scr) (Q : Int32 → Mem → Prop) (E : String → Mem → Prop) (k : Nat) (v2 v3 : Int32) (s0 : Mem) : Prop := wL_seen k s0 (fun (s1 : Mem) => wX12_save   s1 (fun (r2 : Int32) (s3 : Mem) => wL_bale  0 s3 (fun (r4 : Int32) (s5 : Mem) => wL_isIn  r4 v2 v3 s5 (fun (r6 : Int32) (s7 : Mem) => wL_longestPiece   s7 (fun (r8 : Int32) (s9 : Mem) => wL_pieceByLength  0 s9 (fun (r10 : Int32) (s11 : Mem) => wX12_renderShelf   s11 (fun (r12 : Int32) (s13 : Mem) => wL_orderByTime  0 s13 (fun (r14 : Int32) (s15 : Mem) => ∀ v6_16 : Int32, v6_16 = ((((r6 + r8) + r10) + r12) + r14) → wL_seen (k + 1) s15 (fun (s17 : Mem) => wL_areAlike k (k + 1)  s17 (fun (r18 : Int32) (s19 : Mem) => ((¬ r18 = 0 → wL_buyBale  1 10 1 s19 (fun (r20 : Int32) (s21 : Mem) => wL_blend  1 10 s21 (fun (r22 : Int32) (s23 : Mem) => wL_addOrder  2 2 s23 (fun (r24 : Int32) (s25 : Mem) => wL_order  0 s25 (fun (r26 : Int32) (s27 : Mem) => wL_spin  r26 s27 (fun (r28 : Int32) (s29 : Mem) => wL_sell  0 s29 (fun (r30 : Int32) (s31 : Mem) => ∀ v6_32 : Int32, v6_32 = (v6_16 + ((((r20 + r22) + r24) + r28) + r30)) → ((v6_32 ≤ (-90000000) → False) ∧ (¬ v6_32 ≤ (-90000000) → wL_restore   s31 (fun (r33 : Int32) (s34 : Mem) => ((¬ r33 = r2 → False) ∧ (r33 = r2 → wL_seen (k + 2) s34 (fun (s35 : Mem) => wL_areAlike k (k + 2)  s35 (fun (r36 : Int32) (s37 : Mem) => ((r36 = 0 → False) ∧ (¬ r36 = 0 → wL_undo   s37 (fun (r38 : Int32) (s39 : Mem) => ((¬ r38 = (-900001) → False) ∧ (r38 = (-900001) → Q 1 s39))) E))) E) (fun _ _ => False)))) E))) E) E) E) E) E) E) ∧ (r18 = 0 → False))) E) (fun _ _ => False)) E) E) E) E) E) E) E) (fun _ _ => False)
set_option maxRecDepth 20000 in
set_option maxHeartbeats 8000000 in
theorem oL_law_159 {S : Scr} {Q : Int32 → Mem → Prop} {E : String → Mem → Prop} {K : Fr} {mc ms : Nat} (B : Bd K cL_law "YarnMillLaw" 7 (some .boolean) 2048 94400 mc ms (RI Q) E) (hS : scr (fX K) = S) (hT : Tmp (fX K)) {k : Nat} (hk : k = xen (fX K) 30 1) {cells slots : Nat} (hc : cells + 396 ≤ mc) (hs : slots + 10680 ≤ ms) (v2 v3 : Int32) (s0 : Mem) (h : wL_law_159 S Q E k v2 v3 s0) : Go K cells slots s0 159 [some (.ref (xen (fX K) 5 0)), some (.ref (xad (fX K) 14 0)), some (.int v2), some (.int v3), none, none, none] [] := by
  unfold wL_law_159 at h
  refine g_aload_n (np := 160) B.1 dL_law_159 rfl rfl ?_
  refine g_callSeen (np := 163) B hk h (Nat.le_of_ble_eq_true rfl) (Nat.le_of_ble_eq_true rfl) (Nat.le_of_ble_eq_true rfl) (by (repeat rewrite [Nat.add_assoc]); first | exact fit hc (Nat.le_of_ble_eq_true rfl) | exact fit0 hc) (by (repeat rewrite [Nat.add_assoc]); first | exact fit hs (Nat.le_of_ble_eq_true rfl) | exact fit0 hs) dL_law_160 rfl (fun K B hE hk9 hx9 s1 h => ?_)
  rw [← hE.2.2.1 14 0 (Or.inr (Or.inl rfl)), ← hE.2.1 5 0 (by decide)]
  replace hS := (scr_ext hE).trans hS
  replace hT : Tmp (fX K) := ⟨hx9.1.trans hT.1, hx9.2.1.trans hT.2.1, hx9.2.2.trans hT.2.2⟩
  clear hk hE hx9
  have hk : k + 1 = xen (fX K) 30 1 := hk9.symm
  clear hk9
  have hA0 : k < oCnt (fX K) 19 := by show _ < xen (fX K) 30 1; omega
  refine g_astore (np := 165) (lv' := [some (.ref (xen (fX K) 5 0)), some (.ref (xad (fX K) 14 0)), some (.int v2), some (.int v3), some (.ref (xad (fX K) 19 k)), none, none]) B.1 dL_law_163 (by decide) rfl rfl rfl ?_
  refine g_aload_n (np := 166) B.1 dL_law_165 rfl rfl ?_
  refine gc_YLaw_297 (np := 169) B   (oX12_save B.1.tr     _ _ _ h) (Nat.le_of_ble_eq_true rfl) (Nat.le_of_ble_eq_true rfl) (Nat.le_of_ble_eq_true rfl) (by (repeat rewrite [Nat.add_assoc]); first | exact fit hc (Nat.le_of_ble_eq_true rfl) | exact fit0 hc) (by (repeat rewrite [Nat.add_assoc]); first | exact fit hs (Nat.le_of_ble_eq_true rfl) | exact fit0 hs) dL_law_166 rfl (fun r2 s3 h => ?_)
  refine g_istore (np := 171) (lv' := [some (.ref (xen (fX K) 5 0)), some (.ref (xad (fX K) 14 0)), some (.int v2), some (.int v3), some (.ref (xad (fX K) 19 k)), some (.int r2), none]) B.1 dL_law_169 (by decide) rfl rfl rfl ?_
  refine g_aload_n (np := 172) B.1 dL_law_171 rfl rfl ?_
  refine g_aload_n (np := 173) B.1 dL_law_172 rfl rfl ?_
  refine g_iconst (np := 174) (v := 0) B.1 dL_law_173 (by decide) rfl ?_
  refine gc_YLaw_300 (np := 177) B   (oL_bale B.1.tr   0  _ _ _ h) (Nat.le_of_ble_eq_true rfl) (Nat.le_of_ble_eq_true rfl) (Nat.le_of_ble_eq_true rfl) (by (repeat rewrite [Nat.add_assoc]); first | exact fit hc (Nat.le_of_ble_eq_true rfl) | exact fit0 hc) (by (repeat rewrite [Nat.add_assoc]); first | exact fit hs (Nat.le_of_ble_eq_true rfl) | exact fit0 hs) dL_law_174 rfl (fun r4 s5 h => ?_)
  refine g_iload_n (np := 178) B.1 dL_law_177 rfl rfl ?_
  refine g_iload_n (np := 179) B.1 dL_law_178 rfl rfl ?_
  refine gc_YLaw_303 (np := 182) B   (oL_isIn B.1.tr   r4 v2 v3  _ _ _ h) (Nat.le_of_ble_eq_true rfl) (Nat.le_of_ble_eq_true rfl) (Nat.le_of_ble_eq_true rfl) (by (repeat rewrite [Nat.add_assoc]); first | exact fit hc (Nat.le_of_ble_eq_true rfl) | exact fit0 hc) (by (repeat rewrite [Nat.add_assoc]); first | exact fit hs (Nat.le_of_ble_eq_true rfl) | exact fit0 hs) dL_law_179 rfl (fun r6 s7 h => ?_)
  refine g_aload_n (np := 183) B.1 dL_law_182 rfl rfl ?_
  refine gc_YLaw_306 (np := 186) B   (oL_longestPiece B.1.tr     _ _ _ h) (Nat.le_of_ble_eq_true rfl) (Nat.le_of_ble_eq_true rfl) (Nat.le_of_ble_eq_true rfl) (by (repeat rewrite [Nat.add_assoc]); first | exact fit hc (Nat.le_of_ble_eq_true rfl) | exact fit0 hc) (by (repeat rewrite [Nat.add_assoc]); first | exact fit hs (Nat.le_of_ble_eq_true rfl) | exact fit0 hs) dL_law_183 rfl (fun r8 s9 h => ?_)
  refine g_iadd (np := 187) B.1 dL_law_186 rfl ?_
  refine g_aload_n (np := 188) B.1 dL_law_187 rfl rfl ?_
  refine g_iconst (np := 189) (v := 0) B.1 dL_law_188 (by decide) rfl ?_
  refine gc_YLaw_308 (np := 192) B   (oL_pieceByLength B.1.tr   0  _ _ _ h) (Nat.le_of_ble_eq_true rfl) (Nat.le_of_ble_eq_true rfl) (Nat.le_of_ble_eq_true rfl) (by (repeat rewrite [Nat.add_assoc]); first | exact fit hc (Nat.le_of_ble_eq_true rfl) | exact fit0 hc) (by (repeat rewrite [Nat.add_assoc]); first | exact fit hs (Nat.le_of_ble_eq_true rfl) | exact fit0 hs) dL_law_189 rfl (fun r10 s11 h => ?_)
  refine g_iadd (np := 193) B.1 dL_law_192 rfl ?_
  refine g_aload_n (np := 194) B.1 dL_law_193 rfl rfl ?_
  refine gc_YLaw_310 (np := 197) B   (oX12_renderShelf B.1.tr     _ _ _ h) (Nat.le_of_ble_eq_true rfl) (Nat.le_of_ble_eq_true rfl) (Nat.le_of_ble_eq_true rfl) (by (repeat rewrite [Nat.add_assoc]); first | exact fit hc (Nat.le_of_ble_eq_true rfl) | exact fit0 hc) (by (repeat rewrite [Nat.add_assoc]); first | exact fit hs (Nat.le_of_ble_eq_true rfl) | exact fit0 hs) dL_law_194 rfl (fun r12 s13 h => ?_)
  refine g_iadd (np := 198) B.1 dL_law_197 rfl ?_
  refine g_aload_n (np := 199) B.1 dL_law_198 rfl rfl ?_
  refine g_iconst (np := 200) (v := 0) B.1 dL_law_199 (by decide) rfl ?_
  refine gc_YLaw_313 (np := 203) B   (oL_orderByTime B.1.tr   0  _ _ _ h) (Nat.le_of_ble_eq_true rfl) (Nat.le_of_ble_eq_true rfl) (Nat.le_of_ble_eq_true rfl) (by (repeat rewrite [Nat.add_assoc]); first | exact fit hc (Nat.le_of_ble_eq_true rfl) | exact fit0 hc) (by (repeat rewrite [Nat.add_assoc]); first | exact fit hs (Nat.le_of_ble_eq_true rfl) | exact fit0 hs) dL_law_200 rfl (fun r14 s15 h => ?_)
  refine g_iadd (np := 204) B.1 dL_law_203 rfl ?_
  refine g_topi (fun v6_16 ev6_16 => ?_)
  replace h := h v6_16 ev6_16
  refine g_istore (np := 206) (lv' := [some (.ref (xen (fX K) 5 0)), some (.ref (xad (fX K) 14 0)), some (.int v2), some (.int v3), some (.ref (xad (fX K) 19 k)), some (.int r2), some (.int v6_16)]) B.1 dL_law_204 (by decide) rfl rfl rfl ?_
  refine g_aload (np := 208) B.1 dL_law_206 rfl rfl ?_
  refine g_aload_n (np := 209) B.1 dL_law_208 rfl rfl ?_
  refine g_callSeen (np := 212) B hk h (Nat.le_of_ble_eq_true rfl) (Nat.le_of_ble_eq_true rfl) (Nat.le_of_ble_eq_true rfl) (by (repeat rewrite [Nat.add_assoc]); first | exact fit hc (Nat.le_of_ble_eq_true rfl) | exact fit0 hc) (by (repeat rewrite [Nat.add_assoc]); first | exact fit hs (Nat.le_of_ble_eq_true rfl) | exact fit0 hs) dL_law_209 rfl (fun K B hE hk9 hx9 s17 h => ?_)
  rw [← hE.2.2.1 19 (k) (Or.inr (Or.inr hA0))]
  rw [← hE.2.2.1 14 0 (Or.inr (Or.inl rfl)), ← hE.2.1 5 0 (by decide)]
  replace hS := (scr_ext hE).trans hS
  replace hT : Tmp (fX K) := ⟨hx9.1.trans hT.1, hx9.2.1.trans hT.2.1, hx9.2.2.trans hT.2.2⟩
  clear hk hE hx9
  have hk : k + 1 + 1 = xen (fX K) 30 1 := hk9.symm
  clear hk9
  have hA0 : k < oCnt (fX K) 19 := by show _ < xen (fX K) 30 1; omega
  have hA1 : k + 1 < oCnt (fX K) 19 := by show _ < xen (fX K) 30 1; omega
  refine gc_YLaw_291 (np := 215) B k (k + 1) hA0 hA1 (oL_areAlike B.1.tr k (k + 1) hA0 hA1   _ _ _ h) (Nat.le_of_ble_eq_true rfl) (Nat.le_of_ble_eq_true rfl) (Nat.le_of_ble_eq_true rfl) (by (repeat rewrite [Nat.add_assoc]); first | exact fit hc (Nat.le_of_ble_eq_true rfl) | exact fit0 hc) (by (repeat rewrite [Nat.add_assoc]); first | exact fit hs (Nat.le_of_ble_eq_true rfl) | exact fit0 hs) dL_law_212 rfl (fun r18 s19 h => ?_)
  refine g_if_ne (np := 218) (tgt := 220) B.1 dL_law_215 (by decide) rfl (fun q => ?_) (fun q => ?_)
  · replace h := h.1 q
    refine g_iload (np := 222) B.1 dL_law_220 rfl rfl ?_
    refine g_aload_n (np := 223) B.1 dL_law_222 rfl rfl ?_
    refine g_iconst (np := 224) (v := 1) B.1 dL_law_223 (by decide) rfl ?_
    refine g_bipush (np := 226) (v := 10) B.1 dL_law_224 (by decide) rfl ?_
    refine g_iconst (np := 227) (v := 1) B.1 dL_law_226 (by decide) rfl ?_
    refine gc_YLaw_112 (np := 230) B   (oL_buyBale B.1.tr   1 10 1  _ _ _ h) (Nat.le_of_ble_eq_true rfl) (Nat.le_of_ble_eq_true rfl) (Nat.le_of_ble_eq_true rfl) (by (repeat rewrite [Nat.add_assoc]); first | exact fit hc (Nat.le_of_ble_eq_true rfl) | exact fit0 hc) (by (repeat rewrite [Nat.add_assoc]); first | exact fit hs (Nat.le_of_ble_eq_true rfl) | exact fit0 hs) dL_law_227 rfl (fun r20 s21 h => ?_)
    refine g_aload_n (np := 231) B.1 dL_law_230 rfl rfl ?_
    refine g_iconst (np := 232) (v := 1) B.1 dL_law_231 (by decide) rfl ?_
    refine g_bipush (np := 234) (v := 10) B.1 dL_law_232 (by decide) rfl ?_
    refine gc_YLaw_115 (np := 237) B   (oL_blend B.1.tr   1 10  _ _ _ h) (Nat.le_of_ble_eq_true rfl) (Nat.le_of_ble_eq_true rfl) (Nat.le_of_ble_eq_true rfl) (by (repeat rewrite [Nat.add_assoc]); first | exact fit hc (Nat.le_of_ble_eq_true rfl) | exact fit0 hc) (by (repeat rewrite [Nat.add_assoc]); first | exact fit hs (Nat.le_of_ble_eq_true rfl) | exact fit0 hs) dL_law_234 rfl (fun r22 s23 h => ?_)
    refine g_iadd (np := 238) B.1 dL_law_237 rfl ?_
    refine g_aload_n (np := 239) B.1 dL_law_238 rfl rfl ?_
    refine g_iconst (np := 240) (v := 2) B.1 dL_law_239 (by decide) rfl ?_
    refine g_iconst (np := 241) (v := 2) B.1 dL_law_240 (by decide) rfl ?_
    refine gc_YLaw_118 (np := 244) B   (oL_addOrder B.1.tr   2 2  _ _ _ h) (Nat.le_of_ble_eq_true rfl) (Nat.le_of_ble_eq_true rfl) (Nat.le_of_ble_eq_true rfl) (by (repeat rewrite [Nat.add_assoc]); first | exact fit hc (Nat.le_of_ble_eq_true rfl) | exact fit0 hc) (by (repeat rewrite [Nat.add_assoc]); first | exact fit hs (Nat.le_of_ble_eq_true rfl) | exact fit0 hs) dL_law_241 rfl (fun r24 s25 h => ?_)
    refine g_iadd (np := 245) B.1 dL_law_244 rfl ?_
    refine g_aload_n (np := 246) B.1 dL_law_245 rfl rfl ?_
    refine g_aload_n (np := 247) B.1 dL_law_246 rfl rfl ?_
    refine g_iconst (np := 248) (v := 0) B.1 dL_law_247 (by decide) rfl ?_
    refine gc_YLaw_138 (np := 251) B   (oL_order B.1.tr   0  _ _ _ h) (Nat.le_of_ble_eq_true rfl) (Nat.le_of_ble_eq_true rfl) (Nat.le_of_ble_eq_true rfl) (by (repeat rewrite [Nat.add_assoc]); first | exact fit hc (Nat.le_of_ble_eq_true rfl) | exact fit0 hc) (by (repeat rewrite [Nat.add_assoc]); first | exact fit hs (Nat.le_of_ble_eq_true rfl) | exact fit0 hs) dL_law_248 rfl (fun r26 s27 h => ?_)
    refine gc_YLaw_120 (np := 254) B   (oL_spin B.1.tr   r26  _ _ _ h) (Nat.le_of_ble_eq_true rfl) (Nat.le_of_ble_eq_true rfl) (Nat.le_of_ble_eq_true rfl) (by (repeat rewrite [Nat.add_assoc]); first | exact fit hc (Nat.le_of_ble_eq_true rfl) | exact fit0 hc) (by (repeat rewrite [Nat.add_assoc]); first | exact fit hs (Nat.le_of_ble_eq_true rfl) | exact fit0 hs) dL_law_251 rfl (fun r28 s29 h => ?_)
    refine g_iadd (np := 255) B.1 dL_law_254 rfl ?_
    refine g_aload_n (np := 256) B.1 dL_law_255 rfl rfl ?_
    refine g_iconst (np := 257) (v := 0) B.1 dL_law_256 (by decide) rfl ?_
    refine gc_YLaw_147 (np := 260) B   (oL_sell B.1.tr   0  _ _ _ h) (Nat.le_of_ble_eq_true rfl) (Nat.le_of_ble_eq_true rfl) (Nat.le_of_ble_eq_true rfl) (by (repeat rewrite [Nat.add_assoc]); first | exact fit hc (Nat.le_of_ble_eq_true rfl) | exact fit0 hc) (by (repeat rewrite [Nat.add_assoc]); first | exact fit hs (Nat.le_of_ble_eq_true rfl) | exact fit0 hs) dL_law_257 rfl (fun r30 s31 h => ?_)
    refine g_iadd (np := 261) B.1 dL_law_260 rfl ?_
    refine g_iadd (np := 262) B.1 dL_law_261 rfl ?_
    refine g_topi (fun v6_32 ev6_32 => ?_)
    replace h := h v6_32 ev6_32
    refine g_istore (np := 264) (lv' := [some (.ref (xen (fX K) 5 0)), some (.ref (xad (fX K) 14 0)), some (.int v2), some (.int v3), some (.ref (xad (fX K) 19 k)), some (.int r2), some (.int v6_32)]) B.1 dL_law_262 (by decide) rfl rfl rfl ?_
    refine g_iload (np := 266) B.1 dL_law_264 rfl rfl ?_
    refine g_ldc (np := 268) (v := (-90000000)) B.1 b_1242 dL_law_266 rfl ?_
    refine g_icmp_le (np := 271) (tgt := 305) B.1 dL_law_268 (by decide) rfl (fun q => ?_) (fun q => ?_)
    · replace h := h.1 q
      exact h.elim
    · replace h := h.2 q
      refine g_aload_n (np := 272) B.1 dL_law_271 rfl rfl ?_
      refine gc_YLaw_315 (np := 275) B   (oL_restore B.1.tr     _ _ _ h) (Nat.le_of_ble_eq_true rfl) (Nat.le_of_ble_eq_true rfl) (Nat.le_of_ble_eq_true rfl) (by (repeat rewrite [Nat.add_assoc]); first | exact fit hc (Nat.le_of_ble_eq_true rfl) | exact fit0 hc) (by (repeat rewrite [Nat.add_assoc]); first | exact fit hs (Nat.le_of_ble_eq_true rfl) | exact fit0 hs) dL_law_272 rfl (fun r33 s34 h => ?_)
      refine g_iload (np := 277) B.1 dL_law_275 rfl rfl ?_
      refine g_icmp_ne (np := 280) (tgt := 305) B.1 dL_law_277 (by decide) rfl (fun q => ?_) (fun q => ?_)
      · replace h := h.1 q
        exact h.elim
      · replace h := h.2 q
        refine g_aload (np := 282) B.1 dL_law_280 rfl rfl ?_
        refine g_aload_n (np := 283) B.1 dL_law_282 rfl rfl ?_
        refine g_callSeen (np := 286) B hk h (Nat.le_of_ble_eq_true rfl) (Nat.le_of_ble_eq_true rfl) (Nat.le_of_ble_eq_true rfl) (by (repeat rewrite [Nat.add_assoc]); first | exact fit hc (Nat.le_of_ble_eq_true rfl) | exact fit0 hc) (by (repeat rewrite [Nat.add_assoc]); first | exact fit hs (Nat.le_of_ble_eq_true rfl) | exact fit0 hs) dL_law_283 rfl (fun K B hE hk9 hx9 s35 h => ?_)
        rw [← hE.2.2.1 19 (k) (Or.inr (Or.inr hA0))]
        rw [← hE.2.2.1 14 0 (Or.inr (Or.inl rfl)), ← hE.2.1 5 0 (by decide)]
        replace hS := (scr_ext hE).trans hS
        replace hT : Tmp (fX K) := ⟨hx9.1.trans hT.1, hx9.2.1.trans hT.2.1, hx9.2.2.trans hT.2.2⟩
        clear hk hE hx9
        have hk : k + 2 + 1 = xen (fX K) 30 1 := hk9.symm
        clear hk9
        have hA0 : k < oCnt (fX K) 19 := by show _ < xen (fX K) 30 1; omega
        have hA1 : k + 1 < oCnt (fX K) 19 := by show _ < xen (fX K) 30 1; omega
        have hA2 : k + 2 < oCnt (fX K) 19 := by show _ < xen (fX K) 30 1; omega
        refine gc_YLaw_291 (np := 289) B k (k + 2) hA0 hA2 (oL_areAlike B.1.tr k (k + 2) hA0 hA2   _ _ _ h) (Nat.le_of_ble_eq_true rfl) (Nat.le_of_ble_eq_true rfl) (Nat.le_of_ble_eq_true rfl) (by (repeat rewrite [Nat.add_assoc]); first | exact fit hc (Nat.le_of_ble_eq_true rfl) | exact fit0 hc) (by (repeat rewrite [Nat.add_assoc]); first | exact fit hs (Nat.le_of_ble_eq_true rfl) | exact fit0 hs) dL_law_286 rfl (fun r36 s37 h => ?_)
        refine g_if_eq (np := 292) (tgt := 305) B.1 dL_law_289 (by decide) rfl (fun q => ?_) (fun q => ?_)
        · replace h := h.1 q
          exact h.elim
        · replace h := h.2 q
          refine g_aload_n (np := 293) B.1 dL_law_292 rfl rfl ?_
          refine gc_YLaw_295 (np := 296) B   (oL_undo B.1.tr     _ _ _ h) (Nat.le_of_ble_eq_true rfl) (Nat.le_of_ble_eq_true rfl) (Nat.le_of_ble_eq_true rfl) (by (repeat rewrite [Nat.add_assoc]); first | exact fit hc (Nat.le_of_ble_eq_true rfl) | exact fit0 hc) (by (repeat rewrite [Nat.add_assoc]); first | exact fit hs (Nat.le_of_ble_eq_true rfl) | exact fit0 hs) dL_law_293 rfl (fun r38 s39 h => ?_)
          refine g_ldc (np := 298) (v := (-900001)) B.1 b_802 dL_law_296 rfl ?_
          refine g_icmp_ne (np := 301) (tgt := 305) B.1 dL_law_298 (by decide) rfl (fun q => ?_) (fun q => ?_)
          · replace h := h.1 q
            exact h.elim
          · replace h := h.2 q
            refine g_iconst (np := 302) (v := 1) B.1 dL_law_301 (by decide) rfl ?_
            refine g_goto (tgt := 306) B.1 dL_law_302 (by decide) ?_
            exact g_iret B (ty := .boolean) rfl (by decide) (by (repeat rewrite [Nat.add_assoc]); first | exact fit hc (Nat.le_of_ble_eq_true rfl) | exact fit0 hc) (by (repeat rewrite [Nat.add_assoc]); first | exact fit hs (Nat.le_of_ble_eq_true rfl) | exact fit0 hs) dL_law_306 ⟨_, rfl, h⟩
  · replace h := h.2 q
    exact h.elim
def wL_law_46 (S : Scr) (Q : Int32 → Mem → Prop) (E : String → Mem → Prop) : Nat → Nat → Int32 → Int32 → Int32 → Mem → Prop
  | 0, _, _, _, _, _ => False
  | n46 + 1, k, v2, v3, v4, s0 => ((7 ≤ v4 → wL_law_159 S Q E k v2 v3 s0) ∧ (¬ 7 ≤ v4 → wL_seen k s0 (fun (s1 : Mem) => wL_acts S (60 + (4 * v4)) s1 (fun (r2 : Int32) (s3 : Mem) => wL_isWell  v2 v3 s3 (fun (r4 : Int32) (s5 : Mem) => ((r4 = 0 → False) ∧ (¬ r4 = 0 → ((r2 = (-900009) → False) ∧ (¬ r2 = (-900009) → (((-900000) < r2 → ((r2 ≤ (-900000) → ∀ v4_6 : Int32, v4_6 = (v4 + 1) → wL_law_46 S Q E n46 (k + 1) v2 v3 v4_6 s5) ∧ (¬ r2 ≤ (-900000) → wL_in S (88 + v4) 5 s5 (fun (r7 : Int32) (s8 : Mem) => ((¬ r7 = 0 → ∀ v4_9 : Int32, v4_9 = (v4 + 1) → wL_law_46 S Q E n46 (k + 1) v2 v3 v4_9 s8) ∧ (r7 = 0 → wL_undo   s8 (fun (r10 : Int32) (s11 : Mem) => ((r10 < 0 → False) ∧ (¬ r10 < 0 → wL_seen (k + 1) s11 (fun (s12 : Mem) => wL_areAlike k (k + 1)  s12 (fun (r13 : Int32) (s14 : Mem) => ((¬ r13 = 0 → ∀ v4_15 : Int32, v4_15 = (v4 + 1) → wL_law_46 S Q E n46 (k + 2) v2 v3 v4_15 s14) ∧ (r13 = 0 → False))) E) (fun _ _ => False)))) E))) E))) ∧ (¬ (-900000) < r2 → wL_seen (k + 1) s5 (fun (s16 : Mem) => wL_areAlike k (k + 1)  s16 (fun (r17 : Int32) (s18 : Mem) => ((¬ r17 = 0 → ((r2 ≤ (-900000) → ∀ v4_19 : Int32, v4_19 = (v4 + 1) → wL_law_46 S Q E n46 (k + 2) v2 v3 v4_19 s18) ∧ (¬ r2 ≤ (-900000) → wL_in S (88 + v4) 5 s18 (fun (r20 : Int32) (s21 : Mem) => ((¬ r20 = 0 → ∀ v4_22 : Int32, v4_22 = (v4 + 1) → wL_law_46 S Q E n46 (k + 2) v2 v3 v4_22 s21) ∧ (r20 = 0 → wL_undo   s21 (fun (r23 : Int32) (s24 : Mem) => ((r23 < 0 → False) ∧ (¬ r23 < 0 → wL_seen (k + 2) s24 (fun (s25 : Mem) => wL_areAlike k (k + 2)  s25 (fun (r26 : Int32) (s27 : Mem) => ((¬ r26 = 0 → ∀ v4_28 : Int32, v4_28 = (v4 + 1) → wL_law_46 S Q E n46 (k + 3) v2 v3 v4_28 s27) ∧ (r26 = 0 → False))) E) (fun _ _ => False)))) E))) E))) ∧ (r17 = 0 → False))) E) (fun _ _ => False)))))))) E) E) (fun _ _ => False)))
set_option maxRecDepth 20000 in
set_option maxHeartbeats 8000000 in
theorem oL_law_46 {S : Scr} {Q : Int32 → Mem → Prop} {E : String → Mem → Prop} : ∀ (n : Nat) (K : Fr) {mc ms : Nat} (B : Bd K cL_law "YarnMillLaw" 7 (some .boolean) 2048 94400 mc ms (RI Q) E) (hS : scr (fX K) = S) (hT : Tmp (fX K)) {k : Nat} (hk : k = xen (fX K) 30 1) {cells slots : Nat} (hc : cells + (n * 613 + 396) ≤ mc) (hs : slots + (n * 23882 + 10680) ≤ ms) (v2 v3 v4 : Int32) (s0 : Mem), wL_law_46 S Q E n k v2 v3 v4 s0 → Go K cells slots s0 46 [some (.ref (xen (fX K) 5 0)), some (.ref (xad (fX K) 14 0)), some (.int v2), some (.int v3), some (.int v4), none, none] [] := by
  intro n
  induction n with
  | zero => intro K mc ms B hS hT k hk cells slots hc hs v2 v3 v4 s0 h; exact absurd h (by simp [wL_law_46])
  | succ n ih =>
    intro K mc ms B hS hT k hk cells slots hc hs v2 v3 v4 s0 h
    simp only [wL_law_46] at h
    have hcN := fitU hc
    have hsN := fitU hs
    replace hc := fitT hc
    replace hs := fitT hs
    refine g_iload (np := 48) B.1 dL_law_46 rfl rfl ?_
    refine g_bipush (np := 50) (v := 7) B.1 dL_law_48 (by decide) rfl ?_
    refine g_icmp_ge (np := 53) (tgt := 159) B.1 dL_law_50 (by decide) rfl (fun q => ?_) (fun q => ?_)
    · replace h := h.1 q
      refine Go.lle [some (.ref (xen (fX K) 5 0)), some (.ref (xad (fX K) 14 0)), some (.int v2), some (.int v3), none, none, none] (by simp [lle]) ?_
      exact oL_law_159 B hS hT hk (by (repeat rewrite [Nat.add_assoc]); first | exact fit hc (Nat.le_of_ble_eq_true rfl) | exact fit0 hc) (by (repeat rewrite [Nat.add_assoc]); first | exact fit hs (Nat.le_of_ble_eq_true rfl) | exact fit0 hs) v2 v3 s0 h
    · replace h := h.2 q
      refine g_aload_n (np := 54) B.1 dL_law_53 rfl rfl ?_
      refine g_callSeen (np := 57) B hk h (Nat.le_of_ble_eq_true rfl) (Nat.le_of_ble_eq_true rfl) (Nat.le_of_ble_eq_true rfl) (by (repeat rewrite [Nat.add_assoc]); first | exact fit hc (Nat.le_of_ble_eq_true rfl) | exact fit0 hc) (by (repeat rewrite [Nat.add_assoc]); first | exact fit hs (Nat.le_of_ble_eq_true rfl) | exact fit0 hs) dL_law_54 rfl (fun K B hE hk9 hx9 s1 h => ?_)
      rw [← hE.2.2.1 14 0 (Or.inr (Or.inl rfl)), ← hE.2.1 5 0 (by decide)]
      replace hS := (scr_ext hE).trans hS
      replace hT : Tmp (fX K) := ⟨hx9.1.trans hT.1, hx9.2.1.trans hT.2.1, hx9.2.2.trans hT.2.2⟩
      clear hk hE hx9
      have hk : k + 1 = xen (fX K) 30 1 := hk9.symm
      clear hk9
      have hA0 : k < oCnt (fX K) 19 := by show _ < xen (fX K) 30 1; omega
      refine g_astore (np := 59) (lv' := [some (.ref (xen (fX K) 5 0)), some (.ref (xad (fX K) 14 0)), some (.int v2), some (.int v3), some (.int v4), some (.ref (xad (fX K) 19 k)), none]) B.1 dL_law_57 (by decide) rfl rfl rfl ?_
      refine g_aload_n (np := 60) B.1 dL_law_59 rfl rfl ?_
      refine g_aload_n (np := 61) B.1 dL_law_60 rfl rfl ?_
      refine g_bipush (np := 63) (v := 60) B.1 dL_law_61 (by decide) rfl ?_
      refine g_iconst (np := 64) (v := 4) B.1 dL_law_63 (by decide) rfl ?_
      refine g_iload (np := 66) B.1 dL_law_64 rfl rfl ?_
      refine g_imul (np := 67) B.1 dL_law_66 rfl ?_
      refine g_iadd (np := 68) B.1 dL_law_67 rfl ?_
      refine gc_YLaw_286 (np := 71) B S hS hT (oL_acts B.1.tr S hS hT (60 + (4 * v4))  _ _ _ h) (Nat.le_of_ble_eq_true rfl) (Nat.le_of_ble_eq_true rfl) (Nat.le_of_ble_eq_true rfl) (by (repeat rewrite [Nat.add_assoc]); first | exact fit hc (Nat.le_of_ble_eq_true rfl) | exact fit0 hc) (by (repeat rewrite [Nat.add_assoc]); first | exact fit hs (Nat.le_of_ble_eq_true rfl) | exact fit0 hs) dL_law_68 rfl (fun r2 s3 h => ?_)
      refine g_istore (np := 73) (lv' := [some (.ref (xen (fX K) 5 0)), some (.ref (xad (fX K) 14 0)), some (.int v2), some (.int v3), some (.int v4), some (.ref (xad (fX K) 19 k)), some (.int r2)]) B.1 dL_law_71 (by decide) rfl rfl rfl ?_
      refine g_aload_n (np := 74) B.1 dL_law_73 rfl rfl ?_
      refine g_iload_n (np := 75) B.1 dL_law_74 rfl rfl ?_
      refine g_iload_n (np := 76) B.1 dL_law_75 rfl rfl ?_
      refine gc_YLaw_278 (np := 79) B   (oL_isWell B.1.tr   v2 v3  _ _ _ h) (Nat.le_of_ble_eq_true rfl) (Nat.le_of_ble_eq_true rfl) (Nat.le_of_ble_eq_true rfl) (by (repeat rewrite [Nat.add_assoc]); first | exact fit hc (Nat.le_of_ble_eq_true rfl) | exact fit0 hc) (by (repeat rewrite [Nat.add_assoc]); first | exact fit hs (Nat.le_of_ble_eq_true rfl) | exact fit0 hs) dL_law_76 rfl (fun r4 s5 h => ?_)
      refine g_if_eq (np := 82) (tgt := 109) B.1 dL_law_79 (by decide) rfl (fun q => ?_) (fun q => ?_)
      · replace h := h.1 q
        exact h.elim
      · replace h := h.2 q
        refine g_iload (np := 84) B.1 dL_law_82 rfl rfl ?_
        refine g_ldc (np := 86) (v := (-900009)) B.1 b_1346 dL_law_84 rfl ?_
        refine g_icmp_eq (np := 89) (tgt := 109) B.1 dL_law_86 (by decide) rfl (fun q => ?_) (fun q => ?_)
        · replace h := h.1 q
          exact h.elim
        · replace h := h.2 q
          refine g_iload (np := 91) B.1 dL_law_89 rfl rfl ?_
          refine g_ldcw (np := 94) (v := (-900000)) B.1 b_1632 dL_law_91 rfl ?_
          refine g_icmp_gt (np := 97) (tgt := 111) B.1 dL_law_94 (by decide) rfl (fun q => ?_) (fun q => ?_)
          · replace h := h.1 q
            refine g_iload (np := 113) B.1 dL_law_111 rfl rfl ?_
            refine g_ldcw (np := 116) (v := (-900000)) B.1 b_1632 dL_law_113 rfl ?_
            refine g_icmp_le (np := 119) (tgt := 153) B.1 dL_law_116 (by decide) rfl (fun q => ?_) (fun q => ?_)
            · replace h := h.1 q
              obtain ⟨v4_6, ev4_6⟩ : ∃ y : Int32, y = v4 + 1 := ⟨_, rfl⟩
              replace h := h v4_6 ev4_6
              refine g_iinc (np := 156) (v := v4_6) (lv' := [some (.ref (xen (fX K) 5 0)), some (.ref (xad (fX K) 14 0)), some (.int v2), some (.int v3), some (.int v4_6), some (.ref (xad (fX K) 19 k)), some (.int r2)]) B.1 dL_law_153 rfl (by rw [ev4_6]; rfl) (by decide) rfl rfl rfl ?_
              refine g_goto (tgt := 46) B.1 dL_law_156 (by decide) ?_
              refine Go.lle [some (.ref (xen (fX K) 5 0)), some (.ref (xad (fX K) 14 0)), some (.int v2), some (.int v3), some (.int v4_6), none, none] (by simp [lle]) ?_
              refine Go.widen (k := cells + 613) (n := slots + 23882) (by (repeat rewrite [Nat.add_assoc]); exact Nat.add_le_add_left (Nat.le_of_ble_eq_true rfl) cells) (by (repeat rewrite [Nat.add_assoc]); exact Nat.add_le_add_left (Nat.le_of_ble_eq_true rfl) slots) ?_
              exact ih K B hS hT hk hcN hsN v2 v3 v4_6 s5 h
            · replace h := h.2 q
              refine g_aload_n (np := 120) B.1 dL_law_119 rfl rfl ?_
              refine g_bipush (np := 122) (v := 88) B.1 dL_law_120 (by decide) rfl ?_
              refine g_iload (np := 124) B.1 dL_law_122 rfl rfl ?_
              refine g_iadd (np := 125) B.1 dL_law_124 rfl ?_
              refine g_iconst (np := 126) (v := 5) B.1 dL_law_125 (by decide) rfl ?_
              refine gc_YLaw_108 (np := 129) B S hS (oL_in B.1.tr S hS (88 + v4) 5  _ _ _ h) (Nat.le_of_ble_eq_true rfl) (Nat.le_of_ble_eq_true rfl) (Nat.le_of_ble_eq_true rfl) (by (repeat rewrite [Nat.add_assoc]); first | exact fit hc (Nat.le_of_ble_eq_true rfl) | exact fit0 hc) (by (repeat rewrite [Nat.add_assoc]); first | exact fit hs (Nat.le_of_ble_eq_true rfl) | exact fit0 hs) dL_law_126 rfl (fun r7 s8 h => ?_)
              refine g_if_ne (np := 132) (tgt := 153) B.1 dL_law_129 (by decide) rfl (fun q => ?_) (fun q => ?_)
              · replace h := h.1 q
                obtain ⟨v4_9, ev4_9⟩ : ∃ y : Int32, y = v4 + 1 := ⟨_, rfl⟩
                replace h := h v4_9 ev4_9
                refine g_iinc (np := 156) (v := v4_9) (lv' := [some (.ref (xen (fX K) 5 0)), some (.ref (xad (fX K) 14 0)), some (.int v2), some (.int v3), some (.int v4_9), some (.ref (xad (fX K) 19 k)), some (.int r2)]) B.1 dL_law_153 rfl (by rw [ev4_9]; rfl) (by decide) rfl rfl rfl ?_
                refine g_goto (tgt := 46) B.1 dL_law_156 (by decide) ?_
                refine Go.lle [some (.ref (xen (fX K) 5 0)), some (.ref (xad (fX K) 14 0)), some (.int v2), some (.int v3), some (.int v4_9), none, none] (by simp [lle]) ?_
                refine Go.widen (k := cells + 613) (n := slots + 23882) (by (repeat rewrite [Nat.add_assoc]); exact Nat.add_le_add_left (Nat.le_of_ble_eq_true rfl) cells) (by (repeat rewrite [Nat.add_assoc]); exact Nat.add_le_add_left (Nat.le_of_ble_eq_true rfl) slots) ?_
                exact ih K B hS hT hk hcN hsN v2 v3 v4_9 s8 h
              · replace h := h.2 q
                refine g_aload_n (np := 133) B.1 dL_law_132 rfl rfl ?_
                refine gc_YLaw_295 (np := 136) B   (oL_undo B.1.tr     _ _ _ h) (Nat.le_of_ble_eq_true rfl) (Nat.le_of_ble_eq_true rfl) (Nat.le_of_ble_eq_true rfl) (by (repeat rewrite [Nat.add_assoc]); first | exact fit hc (Nat.le_of_ble_eq_true rfl) | exact fit0 hc) (by (repeat rewrite [Nat.add_assoc]); first | exact fit hs (Nat.le_of_ble_eq_true rfl) | exact fit0 hs) dL_law_133 rfl (fun r10 s11 h => ?_)
                refine g_if_lt (np := 139) (tgt := 151) B.1 dL_law_136 (by decide) rfl (fun q => ?_) (fun q => ?_)
                · replace h := h.1 q
                  exact h.elim
                · replace h := h.2 q
                  refine g_aload (np := 141) B.1 dL_law_139 rfl rfl ?_
                  refine g_aload_n (np := 142) B.1 dL_law_141 rfl rfl ?_
                  refine g_callSeen (np := 145) B hk h (Nat.le_of_ble_eq_true rfl) (Nat.le_of_ble_eq_true rfl) (Nat.le_of_ble_eq_true rfl) (by (repeat rewrite [Nat.add_assoc]); first | exact fit hc (Nat.le_of_ble_eq_true rfl) | exact fit0 hc) (by (repeat rewrite [Nat.add_assoc]); first | exact fit hs (Nat.le_of_ble_eq_true rfl) | exact fit0 hs) dL_law_142 rfl (fun K B hE hk9 hx9 s12 h => ?_)
                  rw [← hE.2.2.1 19 (k) (Or.inr (Or.inr hA0))]
                  rw [← hE.2.2.1 14 0 (Or.inr (Or.inl rfl)), ← hE.2.1 5 0 (by decide)]
                  replace hS := (scr_ext hE).trans hS
                  replace hT : Tmp (fX K) := ⟨hx9.1.trans hT.1, hx9.2.1.trans hT.2.1, hx9.2.2.trans hT.2.2⟩
                  clear hk hE hx9
                  have hk : k + 1 + 1 = xen (fX K) 30 1 := hk9.symm
                  clear hk9
                  have hA0 : k < oCnt (fX K) 19 := by show _ < xen (fX K) 30 1; omega
                  have hA1 : k + 1 < oCnt (fX K) 19 := by show _ < xen (fX K) 30 1; omega
                  refine gc_YLaw_291 (np := 148) B k (k + 1) hA0 hA1 (oL_areAlike B.1.tr k (k + 1) hA0 hA1   _ _ _ h) (Nat.le_of_ble_eq_true rfl) (Nat.le_of_ble_eq_true rfl) (Nat.le_of_ble_eq_true rfl) (by (repeat rewrite [Nat.add_assoc]); first | exact fit hc (Nat.le_of_ble_eq_true rfl) | exact fit0 hc) (by (repeat rewrite [Nat.add_assoc]); first | exact fit hs (Nat.le_of_ble_eq_true rfl) | exact fit0 hs) dL_law_145 rfl (fun r13 s14 h => ?_)
                  refine g_if_ne (np := 151) (tgt := 153) B.1 dL_law_148 (by decide) rfl (fun q => ?_) (fun q => ?_)
                  · replace h := h.1 q
                    obtain ⟨v4_15, ev4_15⟩ : ∃ y : Int32, y = v4 + 1 := ⟨_, rfl⟩
                    replace h := h v4_15 ev4_15
                    refine g_iinc (np := 156) (v := v4_15) (lv' := [some (.ref (xen (fX K) 5 0)), some (.ref (xad (fX K) 14 0)), some (.int v2), some (.int v3), some (.int v4_15), some (.ref (xad (fX K) 19 k)), some (.int r2)]) B.1 dL_law_153 rfl (by rw [ev4_15]; rfl) (by decide) rfl rfl rfl ?_
                    refine g_goto (tgt := 46) B.1 dL_law_156 (by decide) ?_
                    refine Go.lle [some (.ref (xen (fX K) 5 0)), some (.ref (xad (fX K) 14 0)), some (.int v2), some (.int v3), some (.int v4_15), none, none] (by simp [lle]) ?_
                    refine Go.widen (k := cells + 613) (n := slots + 23882) (by (repeat rewrite [Nat.add_assoc]); exact Nat.add_le_add_left (Nat.le_of_ble_eq_true rfl) cells) (by (repeat rewrite [Nat.add_assoc]); exact Nat.add_le_add_left (Nat.le_of_ble_eq_true rfl) slots) ?_
                    exact ih K B hS hT hk hcN hsN v2 v3 v4_15 s14 h
                  · replace h := h.2 q
                    exact h.elim
          · replace h := h.2 q
            refine g_aload (np := 99) B.1 dL_law_97 rfl rfl ?_
            refine g_aload_n (np := 100) B.1 dL_law_99 rfl rfl ?_
            refine g_callSeen (np := 103) B hk h (Nat.le_of_ble_eq_true rfl) (Nat.le_of_ble_eq_true rfl) (Nat.le_of_ble_eq_true rfl) (by (repeat rewrite [Nat.add_assoc]); first | exact fit hc (Nat.le_of_ble_eq_true rfl) | exact fit0 hc) (by (repeat rewrite [Nat.add_assoc]); first | exact fit hs (Nat.le_of_ble_eq_true rfl) | exact fit0 hs) dL_law_100 rfl (fun K B hE hk9 hx9 s16 h => ?_)
            rw [← hE.2.2.1 19 (k) (Or.inr (Or.inr hA0))]
            rw [← hE.2.2.1 14 0 (Or.inr (Or.inl rfl)), ← hE.2.1 5 0 (by decide)]
            replace hS := (scr_ext hE).trans hS
            replace hT : Tmp (fX K) := ⟨hx9.1.trans hT.1, hx9.2.1.trans hT.2.1, hx9.2.2.trans hT.2.2⟩
            clear hk hE hx9
            have hk : k + 1 + 1 = xen (fX K) 30 1 := hk9.symm
            clear hk9
            have hA0 : k < oCnt (fX K) 19 := by show _ < xen (fX K) 30 1; omega
            have hA1 : k + 1 < oCnt (fX K) 19 := by show _ < xen (fX K) 30 1; omega
            refine gc_YLaw_291 (np := 106) B k (k + 1) hA0 hA1 (oL_areAlike B.1.tr k (k + 1) hA0 hA1   _ _ _ h) (Nat.le_of_ble_eq_true rfl) (Nat.le_of_ble_eq_true rfl) (Nat.le_of_ble_eq_true rfl) (by (repeat rewrite [Nat.add_assoc]); first | exact fit hc (Nat.le_of_ble_eq_true rfl) | exact fit0 hc) (by (repeat rewrite [Nat.add_assoc]); first | exact fit hs (Nat.le_of_ble_eq_true rfl) | exact fit0 hs) dL_law_103 rfl (fun r17 s18 h => ?_)
            refine g_if_ne (np := 109) (tgt := 111) B.1 dL_law_106 (by decide) rfl (fun q => ?_) (fun q => ?_)
            · replace h := h.1 q
              refine g_iload (np := 113) B.1 dL_law_111 rfl rfl ?_
              refine g_ldcw (np := 116) (v := (-900000)) B.1 b_1632 dL_law_113 rfl ?_
              refine g_icmp_le (np := 119) (tgt := 153) B.1 dL_law_116 (by decide) rfl (fun q => ?_) (fun q => ?_)
              · replace h := h.1 q
                obtain ⟨v4_19, ev4_19⟩ : ∃ y : Int32, y = v4 + 1 := ⟨_, rfl⟩
                replace h := h v4_19 ev4_19
                refine g_iinc (np := 156) (v := v4_19) (lv' := [some (.ref (xen (fX K) 5 0)), some (.ref (xad (fX K) 14 0)), some (.int v2), some (.int v3), some (.int v4_19), some (.ref (xad (fX K) 19 k)), some (.int r2)]) B.1 dL_law_153 rfl (by rw [ev4_19]; rfl) (by decide) rfl rfl rfl ?_
                refine g_goto (tgt := 46) B.1 dL_law_156 (by decide) ?_
                refine Go.lle [some (.ref (xen (fX K) 5 0)), some (.ref (xad (fX K) 14 0)), some (.int v2), some (.int v3), some (.int v4_19), none, none] (by simp [lle]) ?_
                refine Go.widen (k := cells + 613) (n := slots + 23882) (by (repeat rewrite [Nat.add_assoc]); exact Nat.add_le_add_left (Nat.le_of_ble_eq_true rfl) cells) (by (repeat rewrite [Nat.add_assoc]); exact Nat.add_le_add_left (Nat.le_of_ble_eq_true rfl) slots) ?_
                exact ih K B hS hT hk hcN hsN v2 v3 v4_19 s18 h
              · replace h := h.2 q
                refine g_aload_n (np := 120) B.1 dL_law_119 rfl rfl ?_
                refine g_bipush (np := 122) (v := 88) B.1 dL_law_120 (by decide) rfl ?_
                refine g_iload (np := 124) B.1 dL_law_122 rfl rfl ?_
                refine g_iadd (np := 125) B.1 dL_law_124 rfl ?_
                refine g_iconst (np := 126) (v := 5) B.1 dL_law_125 (by decide) rfl ?_
                refine gc_YLaw_108 (np := 129) B S hS (oL_in B.1.tr S hS (88 + v4) 5  _ _ _ h) (Nat.le_of_ble_eq_true rfl) (Nat.le_of_ble_eq_true rfl) (Nat.le_of_ble_eq_true rfl) (by (repeat rewrite [Nat.add_assoc]); first | exact fit hc (Nat.le_of_ble_eq_true rfl) | exact fit0 hc) (by (repeat rewrite [Nat.add_assoc]); first | exact fit hs (Nat.le_of_ble_eq_true rfl) | exact fit0 hs) dL_law_126 rfl (fun r20 s21 h => ?_)
                refine g_if_ne (np := 132) (tgt := 153) B.1 dL_law_129 (by decide) rfl (fun q => ?_) (fun q => ?_)
                · replace h := h.1 q
                  obtain ⟨v4_22, ev4_22⟩ : ∃ y : Int32, y = v4 + 1 := ⟨_, rfl⟩
                  replace h := h v4_22 ev4_22
                  refine g_iinc (np := 156) (v := v4_22) (lv' := [some (.ref (xen (fX K) 5 0)), some (.ref (xad (fX K) 14 0)), some (.int v2), some (.int v3), some (.int v4_22), some (.ref (xad (fX K) 19 k)), some (.int r2)]) B.1 dL_law_153 rfl (by rw [ev4_22]; rfl) (by decide) rfl rfl rfl ?_
                  refine g_goto (tgt := 46) B.1 dL_law_156 (by decide) ?_
                  refine Go.lle [some (.ref (xen (fX K) 5 0)), some (.ref (xad (fX K) 14 0)), some (.int v2), some (.int v3), some (.int v4_22), none, none] (by simp [lle]) ?_
                  refine Go.widen (k := cells + 613) (n := slots + 23882) (by (repeat rewrite [Nat.add_assoc]); exact Nat.add_le_add_left (Nat.le_of_ble_eq_true rfl) cells) (by (repeat rewrite [Nat.add_assoc]); exact Nat.add_le_add_left (Nat.le_of_ble_eq_true rfl) slots) ?_
                  exact ih K B hS hT hk hcN hsN v2 v3 v4_22 s21 h
                · replace h := h.2 q
                  refine g_aload_n (np := 133) B.1 dL_law_132 rfl rfl ?_
                  refine gc_YLaw_295 (np := 136) B   (oL_undo B.1.tr     _ _ _ h) (Nat.le_of_ble_eq_true rfl) (Nat.le_of_ble_eq_true rfl) (Nat.le_of_ble_eq_true rfl) (by (repeat rewrite [Nat.add_assoc]); first | exact fit hc (Nat.le_of_ble_eq_true rfl) | exact fit0 hc) (by (repeat rewrite [Nat.add_assoc]); first | exact fit hs (Nat.le_of_ble_eq_true rfl) | exact fit0 hs) dL_law_133 rfl (fun r23 s24 h => ?_)
                  refine g_if_lt (np := 139) (tgt := 151) B.1 dL_law_136 (by decide) rfl (fun q => ?_) (fun q => ?_)
                  · replace h := h.1 q
                    exact h.elim
                  · replace h := h.2 q
                    refine g_aload (np := 141) B.1 dL_law_139 rfl rfl ?_
                    refine g_aload_n (np := 142) B.1 dL_law_141 rfl rfl ?_
                    refine g_callSeen (np := 145) B hk h (Nat.le_of_ble_eq_true rfl) (Nat.le_of_ble_eq_true rfl) (Nat.le_of_ble_eq_true rfl) (by (repeat rewrite [Nat.add_assoc]); first | exact fit hc (Nat.le_of_ble_eq_true rfl) | exact fit0 hc) (by (repeat rewrite [Nat.add_assoc]); first | exact fit hs (Nat.le_of_ble_eq_true rfl) | exact fit0 hs) dL_law_142 rfl (fun K B hE hk9 hx9 s25 h => ?_)
                    rw [← hE.2.2.1 19 (k) (Or.inr (Or.inr hA0))]
                    rw [← hE.2.2.1 14 0 (Or.inr (Or.inl rfl)), ← hE.2.1 5 0 (by decide)]
                    replace hS := (scr_ext hE).trans hS
                    replace hT : Tmp (fX K) := ⟨hx9.1.trans hT.1, hx9.2.1.trans hT.2.1, hx9.2.2.trans hT.2.2⟩
                    clear hk hE hx9
                    have hk : k + 2 + 1 = xen (fX K) 30 1 := hk9.symm
                    clear hk9
                    have hA0 : k < oCnt (fX K) 19 := by show _ < xen (fX K) 30 1; omega
                    have hA1 : k + 1 < oCnt (fX K) 19 := by show _ < xen (fX K) 30 1; omega
                    have hA2 : k + 2 < oCnt (fX K) 19 := by show _ < xen (fX K) 30 1; omega
                    refine gc_YLaw_291 (np := 148) B k (k + 2) hA0 hA2 (oL_areAlike B.1.tr k (k + 2) hA0 hA2   _ _ _ h) (Nat.le_of_ble_eq_true rfl) (Nat.le_of_ble_eq_true rfl) (Nat.le_of_ble_eq_true rfl) (by (repeat rewrite [Nat.add_assoc]); first | exact fit hc (Nat.le_of_ble_eq_true rfl) | exact fit0 hc) (by (repeat rewrite [Nat.add_assoc]); first | exact fit hs (Nat.le_of_ble_eq_true rfl) | exact fit0 hs) dL_law_145 rfl (fun r26 s27 h => ?_)
                    refine g_if_ne (np := 151) (tgt := 153) B.1 dL_law_148 (by decide) rfl (fun q => ?_) (fun q => ?_)
                    · replace h := h.1 q
                      obtain ⟨v4_28, ev4_28⟩ : ∃ y : Int32, y = v4 + 1 := ⟨_, rfl⟩
                      replace h := h v4_28 ev4_28
                      refine g_iinc (np := 156) (v := v4_28) (lv' := [some (.ref (xen (fX K) 5 0)), some (.ref (xad (fX K) 14 0)), some (.int v2), some (.int v3), some (.int v4_28), some (.ref (xad (fX K) 19 k)), some (.int r2)]) B.1 dL_law_153 rfl (by rw [ev4_28]; rfl) (by decide) rfl rfl rfl ?_
                      refine g_goto (tgt := 46) B.1 dL_law_156 (by decide) ?_
                      refine Go.lle [some (.ref (xen (fX K) 5 0)), some (.ref (xad (fX K) 14 0)), some (.int v2), some (.int v3), some (.int v4_28), none, none] (by simp [lle]) ?_
                      refine Go.widen (k := cells + 613) (n := slots + 23882) (by (repeat rewrite [Nat.add_assoc]); exact Nat.add_le_add_left (Nat.le_of_ble_eq_true rfl) cells) (by (repeat rewrite [Nat.add_assoc]); exact Nat.add_le_add_left (Nat.le_of_ble_eq_true rfl) slots) ?_
                      exact ih K B hS hT hk hcN hsN v2 v3 v4_28 s27 h
                    · replace h := h.2 q
                      exact h.elim
            · replace h := h.2 q
              exact h.elim
def wL_law (S : Scr) (s0 : Mem) (Q : Int32 → Mem → Prop) (E : String → Mem → Prop) : Prop := wL_in S 58 80 s0 (fun (r1 : Int32) (s2 : Mem) => ∀ v2_3 : Int32, v2_3 = (1 + r1) → wL_in S 59 45 s2 (fun (r4 : Int32) (s5 : Mem) => ∀ v3_6 : Int32, v3_6 = (10 + r4) → wL_isWell  v2_3 v3_6 s5 (fun (r7 : Int32) (s8 : Mem) => ((¬ r7 = 0 → wL_law_46 S Q E 8 0 v2_3 v3_6 0 s8) ∧ (r7 = 0 → False))) E) E) E
set_option maxRecDepth 20000 in
set_option maxHeartbeats 8000000 in
theorem oL_law {S : Scr} {Q : Int32 → Mem → Prop} {E : String → Mem → Prop} {K : Fr} {mc ms : Nat} (B : Bd K cL_law "YarnMillLaw" 7 (some .boolean) 2048 94400 mc ms (RI Q) E) (hS : scr (fX K) = S) (hT : Tmp (fX K)) (hk : 0 = xen (fX K) 30 1) {cells slots : Nat} (hc : cells + 5486 ≤ mc) (hs : slots + 202852 ≤ ms) (s0 : Mem) (h : wL_law S s0 Q E) : Go K cells slots s0 4 [some (.ref (xen (fX K) 5 0)), none, none, none, none, none, none] [.ref (xad (fX K) 14 0)] := by
  unfold wL_law at h
  refine g_astore_n (np := 5) (lv' := [some (.ref (xen (fX K) 5 0)), some (.ref (xad (fX K) 14 0)), none, none, none, none, none]) B.1 dL_law_4 (by decide) rfl rfl rfl ?_
  refine g_iconst (np := 6) (v := 1) B.1 dL_law_5 (by decide) rfl ?_
  refine g_aload_n (np := 7) B.1 dL_law_6 rfl rfl ?_
  refine g_bipush (np := 9) (v := 58) B.1 dL_law_7 (by decide) rfl ?_
  refine g_bipush (np := 11) (v := 80) B.1 dL_law_9 (by decide) rfl ?_
  refine gc_YLaw_108 (np := 14) B S hS (oL_in B.1.tr S hS 58 80  _ _ _ h) (Nat.le_of_ble_eq_true rfl) (Nat.le_of_ble_eq_true rfl) (Nat.le_of_ble_eq_true rfl) (by (repeat rewrite [Nat.add_assoc]); first | exact fit hc (Nat.le_of_ble_eq_true rfl) | exact fit0 hc) (by (repeat rewrite [Nat.add_assoc]); first | exact fit hs (Nat.le_of_ble_eq_true rfl) | exact fit0 hs) dL_law_11 rfl (fun r1 s2 h => ?_)
  refine g_iadd (np := 15) B.1 dL_law_14 rfl ?_
  refine g_topi (fun v2_3 ev2_3 => ?_)
  replace h := h v2_3 ev2_3
  refine g_istore_n (np := 16) (lv' := [some (.ref (xen (fX K) 5 0)), some (.ref (xad (fX K) 14 0)), some (.int v2_3), none, none, none, none]) B.1 dL_law_15 (by decide) rfl rfl rfl ?_
  refine g_bipush (np := 18) (v := 10) B.1 dL_law_16 (by decide) rfl ?_
  refine g_aload_n (np := 19) B.1 dL_law_18 rfl rfl ?_
  refine g_bipush (np := 21) (v := 59) B.1 dL_law_19 (by decide) rfl ?_
  refine g_bipush (np := 23) (v := 45) B.1 dL_law_21 (by decide) rfl ?_
  refine gc_YLaw_108 (np := 26) B S hS (oL_in B.1.tr S hS 59 45  _ _ _ h) (Nat.le_of_ble_eq_true rfl) (Nat.le_of_ble_eq_true rfl) (Nat.le_of_ble_eq_true rfl) (by (repeat rewrite [Nat.add_assoc]); first | exact fit hc (Nat.le_of_ble_eq_true rfl) | exact fit0 hc) (by (repeat rewrite [Nat.add_assoc]); first | exact fit hs (Nat.le_of_ble_eq_true rfl) | exact fit0 hs) dL_law_23 rfl (fun r4 s5 h => ?_)
  refine g_iadd (np := 27) B.1 dL_law_26 rfl ?_
  refine g_topi (fun v3_6 ev3_6 => ?_)
  replace h := h v3_6 ev3_6
  refine g_istore_n (np := 28) (lv' := [some (.ref (xen (fX K) 5 0)), some (.ref (xad (fX K) 14 0)), some (.int v2_3), some (.int v3_6), none, none, none]) B.1 dL_law_27 (by decide) rfl rfl rfl ?_
  refine g_aload_n (np := 29) B.1 dL_law_28 rfl rfl ?_
  refine g_ifnull (np := 32) B.1 dL_law_29 rfl ?_
  refine g_aload_n (np := 33) B.1 dL_law_32 rfl rfl ?_
  refine g_iload_n (np := 34) B.1 dL_law_33 rfl rfl ?_
  refine g_iload_n (np := 35) B.1 dL_law_34 rfl rfl ?_
  refine gc_YLaw_278 (np := 38) B   (oL_isWell B.1.tr   v2_3 v3_6  _ _ _ h) (Nat.le_of_ble_eq_true rfl) (Nat.le_of_ble_eq_true rfl) (Nat.le_of_ble_eq_true rfl) (by (repeat rewrite [Nat.add_assoc]); first | exact fit hc (Nat.le_of_ble_eq_true rfl) | exact fit0 hc) (by (repeat rewrite [Nat.add_assoc]); first | exact fit hs (Nat.le_of_ble_eq_true rfl) | exact fit0 hs) dL_law_35 rfl (fun r7 s8 h => ?_)
  refine g_if_ne (np := 41) (tgt := 43) B.1 dL_law_38 (by decide) rfl (fun q => ?_) (fun q => ?_)
  · replace h := h.1 q
    refine g_iconst (np := 44) (v := 0) B.1 dL_law_43 (by decide) rfl ?_
    refine g_istore (np := 46) (lv' := [some (.ref (xen (fX K) 5 0)), some (.ref (xad (fX K) 14 0)), some (.int v2_3), some (.int v3_6), some (.int 0), none, none]) B.1 dL_law_44 (by decide) rfl rfl rfl ?_
    refine Go.lle [some (.ref (xen (fX K) 5 0)), some (.ref (xad (fX K) 14 0)), some (.int v2_3), some (.int v3_6), some (.int 0), none, none] (by simp [lle]) ?_
    exact oL_law_46 8 K B hS hT hk (by (repeat rewrite [Nat.add_assoc]); first | exact fit hc (Nat.le_of_ble_eq_true rfl) | exact fit0 hc) (by (repeat rewrite [Nat.add_assoc]); first | exact fit hs (Nat.le_of_ble_eq_true rfl) | exact fit0 hs) v2_3 v3_6 0 s8 h
  · replace h := h.2 q
    exact h.elim
