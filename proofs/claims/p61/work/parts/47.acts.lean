/-! THE LAW'S METHODS THAT MAKE OBJECTS -/
def Tmp (x : Ctx) : Prop := xen x 30 0 = 0 ∧ xen x 30 2 = 0 ∧ xen x 30 3 = 0
/-- seen: a new row of ints, the next of the world -/
def QNS (x : Ctx) (Q : Mem → Prop) : Array Value → State → Outcome → State → Prop := fun _ st o t => (∃ (a : Nat) (σ' : Mem), o = .returned (some (.ref a)) ∧ Q σ' ∧ Cells (xAR x a) σ' t.heap ∧ Dis (xAR x a) σ') ∧ va_F (XA x) st t
section LX
variable {K : Fr} {cells slots : Nat} {σ : Mem} {cc : ByteArray} {nL pc fr lo mc ms : Nat} {ret : Option FieldType} {Qm : Option Value → Mem → Prop} {Em : String → Mem → Prop} {lv : List (Option Value)} {st : List Value}
theorem g_newSB2 (B : Bd K cc "YarnMillLaw" nL ret fr lo mc ms Qm Em) (h0 : xen (fX K) 30 0 = 0) (lvf : Ctx → List (Option Value)) (stf : Ctx → List Value) (hlv : ∀ x a, lvf (xSB x a) = lvf x) (hst : ∀ x a, stf (xSB x a) = stf x) (hst8 : ((stf (fX K)).map fun v => v.category).sum ≤ 7)
    (d0 : decode cc pc = .ok (.new 149, 3)) (d3 : decode cc (pc + 3) = .ok (.dup, 1)) (d4 : decode cc (pc + 4) = .ok (.invokespecial 151, 3)) (hfr : 3 ≤ fr) (hlo : 80 ≤ lo) (hc : cells + 2 ≤ mc) (hs : slots + 20 ≤ ms) {np : Nat} (hp : pc + 7 = np)
    (kk : ∀ K' : Fr, Bd K' cc "YarnMillLaw" nL ret fr lo mc ms Qm Em → (xen (fX K') 30 2 = xen (fX K) 30 2 ∧ xen (fX K') 30 3 = xen (fX K) 30 3) → 2 < oCnt (fX K') 13 → ∀ σ' : Mem, NewB σ σ' → Go K' (cells + 2) (slots + 20) σ' np (lvf (fX K')) (.ref (xad (fX K') 13 2) :: stf (fX K'))) : Go K cells slots σ pc (lvf (fX K)) (stf (fX K)) :=
  g_newSB B h0 lvf stf hlv hst hst8 d0 d3 d4 hfr hlo hc hs hp (fun a hE σ' hN => kk (setX K (xSB (fX K) a)) (B.set hE (fun _ _ q => q)) ⟨rfl, rfl⟩ (Nat.lt_succ_self 2) σ' hN)
theorem g_toStr2 (B : Bd K cc "YarnMillLaw" nL ret fr lo mc ms Qm Em) (h2 : xen (fX K) 30 2 = 0) (h3 : xen (fX K) 30 3 = 0) (hk : 2 < oCnt (fX K) 13) {n : Nat} (hok : TsOk σ 2 n) (hn : n ≤ 60) (lvf : Ctx → List (Option Value)) (stf : Ctx → List Value) (hlv : ∀ x a, lvf (xSY (xST x a)) = lvf x) (hst : ∀ x a, stf (xSY (xST x a)) = stf x) (hst8 : ((stf (fX K)).map fun v => v.category).sum ≤ 7)
    (hdg : decode cc pc = .ok (.invokevirtual 165, 3)) (hfr : 7 ≤ fr) (hlo : 300 ≤ lo) (hc : cells + 2 ≤ mc) (hs : slots + 64 ≤ ms) {np : Nat} (hp : pc + 3 = np)
    (kk : ∀ K' : Fr, Bd K' cc "YarnMillLaw" nL ret fr lo mc ms Qm Em → 0 < oCnt (fX K') 21 → ∀ σ' : Mem, NewT σ σ' 2 n → Go K' (cells + 2) (slots + 64) σ' np (lvf (fX K')) (.ref (xad (fX K') 20 0) :: stf (fX K'))) : Go K cells slots σ pc (lvf (fX K)) (.ref (xad (fX K) 13 2) :: stf (fX K)) :=
  g_toStr B h2 h3 hk hok hn lvf stf hlv hst hst8 hdg hfr hlo hc hs hp (fun a hE h21 σ' hN => kk (setX K (xSY (xST (fX K) a))) (B.set hE (fun _ _ q => q)) h21 σ' hN)
theorem g_seenAR {Q : Mem → Prop} (B : Bd K cc "YarnMillLaw" nL ret fr lo mc ms (fun _ _ => False) (fun _ _ => False)) (eQ : fQ K = vx_MQ (fB K) (QNS (fX K) Q) (fun _ _ _ => False) (fA K) (fS K) mc ms (XA (fX K))) {k : Nat} (hk : k = xen (fX K) 30 1) (lvf : Ctx → List (Option Value)) (stf : Ctx → List Value) (hlv : ∀ x a, lvf (xAR x a) = lvf x) (hst : ∀ x a, stf (xAR x a) = stf x) (harr : Cond.arrayClass .int ∈ lw_good)
    (hc : cells + 1 ≤ mc) (hs : slots + 110 ≤ ms) (hdg : decode cc pc = .ok (.newarray .int, 2)) {np : Nat} (hp : pc + 2 = np)
    (kk : ∀ K' : Fr, Bd K' cc "YarnMillLaw" nL ret fr lo mc ms (RR (xad (fX K') 19 k) Q) (fun _ _ => False) → k < oCnt (fX K') 19 → ∀ σ' : Mem, NewA σ σ' k → Go K' (cells + 1) (slots + 110) σ' np (lvf (fX K')) (.ref (xad (fX K') 19 k) :: stf (fX K'))) : Go K cells slots σ pc (lvf (fX K)) (.int 110 :: stf (fX K)) := by
  refine g_newAR B.1 hk lvf stf hlv hst harr (by rw [B.2.1]; exact hc) (by rw [B.2.1]; exact hs) hdg hp (fun a hE hk' ha σ' hN => ?_)
  have e : (Value.ref a :: stf (xAR (fX K) a)) = .ref (xad (fX (setX K (xAR (fX K) a))) 19 k) :: stf (fX (setX K (xAR (fX K) a))) := by
    show _ = Value.ref (xad (xAR (fX K) a) 19 k) :: stf (xAR (fX K) a)
    rw [ha]
  rw [e]
  refine kk (setX K (xAR (fX K) a)) ⟨B.1.set hE, B.2.1, B.2.2.1, ⟨QNS (fX K) Q, fun _ _ _ => False, eQ, fun v σ t hq hC hD hF => ⟨⟨a, σ, ?_, hq.2, hC, hD⟩, hF⟩, fun E σ t q => absurd q id⟩, B.2.2.2.2⟩ hk' σ' hN
  rw [hq.1]
  show Outcome.returned (some (.ref (xad (xAR (fX K) a) 19 k))) = _
  rw [ha]
end LX
theorem b_115 : Cond.instanceMethod yJ4_append_15ec4 ∈ lw_good := bB 115 (by decide +kernel) (by decide +kernel)
theorem b_116 : Cond.selects "java/lang/StringBuilder" yJ4_append_15ec4 yJ4_append_15ec4 ∈ lw_good := bB 116 (by decide +kernel) (by decide +kernel)
theorem b_117 : Cond.code yJ4_append_15ec4 cJ4_append_15ec4 2 (some (.object "java/lang/StringBuilder")) ∈ lw_good := bB 117 (by decide +kernel) (by decide +kernel)
theorem b_501 : Cond.methodLink "YarnMillLaw" 112 yL_buyBale ∈ lw_good := bB 501 (by decide +kernel) (by decide +kernel)
theorem b_502 : Cond.static yL_buyBale ∈ lw_good := bB 502 (by decide +kernel) (by decide +kernel)
theorem b_503 : Cond.codeWith yL_buyBale cL_buyBale 5 (some .int) [((0 : Nat), (7 : Nat), (8 : Nat), (15 : Nat)), ((0 : Nat), (7 : Nat), (13 : Nat), (18 : Nat)), ((0 : Nat), (7 : Nat), (18 : Nat), (21 : Nat))] ∈ lw_good := bB 503 (by decide +kernel) (by decide +kernel)
theorem b_805 : Cond.methodLink "YarnMillLaw" 115 yL_blend ∈ lw_good := bB 805 (by decide +kernel) (by decide +kernel)
theorem b_806 : Cond.static yL_blend ∈ lw_good := bB 806 (by decide +kernel) (by decide +kernel)
theorem b_807 : Cond.codeWith yL_blend cL_blend 4 (some .int) [((0 : Nat), (6 : Nat), (7 : Nat), (15 : Nat)), ((0 : Nat), (6 : Nat), (11 : Nat), (21 : Nat)), ((0 : Nat), (6 : Nat), (15 : Nat), (18 : Nat))] ∈ lw_good := bB 807 (by decide +kernel) (by decide +kernel)
theorem b_814 : Cond.methodLink "YarnMillLaw" 118 yL_addOrder ∈ lw_good := bB 814 (by decide +kernel) (by decide +kernel)
theorem b_815 : Cond.static yL_addOrder ∈ lw_good := bB 815 (by decide +kernel) (by decide +kernel)
theorem b_816 : Cond.codeWith yL_addOrder cL_addOrder 4 (some .int) [((0 : Nat), (6 : Nat), (7 : Nat), (15 : Nat)), ((0 : Nat), (6 : Nat), (11 : Nat), (18 : Nat))] ∈ lw_good := bB 816 (by decide +kernel) (by decide +kernel)
theorem b_823 : Cond.methodLink "YarnMillLaw" 120 yL_spin ∈ lw_good := bB 823 (by decide +kernel) (by decide +kernel)
theorem b_824 : Cond.static yL_spin ∈ lw_good := bB 824 (by decide +kernel) (by decide +kernel)
theorem b_825 : Cond.codeWith yL_spin cL_spin 3 (some .int) [((0 : Nat), (5 : Nat), (6 : Nat), (35 : Nat)), ((0 : Nat), (5 : Nat), (10 : Nat), (21 : Nat)), ((0 : Nat), (5 : Nat), (14 : Nat), (18 : Nat))] ∈ lw_good := bB 825 (by decide +kernel) (by decide +kernel)
theorem b_833 : Cond.methodLink "YarnMillLaw" 147 yL_sell ∈ lw_good := bB 833 (by decide +kernel) (by decide +kernel)
theorem b_834 : Cond.static yL_sell ∈ lw_good := bB 834 (by decide +kernel) (by decide +kernel)
theorem b_835 : Cond.codeWith yL_sell cL_sell 3 (some .int) [((0 : Nat), (5 : Nat), (6 : Nat), (46 : Nat))] ∈ lw_good := bB 835 (by decide +kernel) (by decide +kernel)
theorem b_935 : Cond.methodLink "YarnMillLaw" 108 yL_in ∈ lw_good := bB 935 (by decide +kernel) (by decide +kernel)
theorem b_936 : Cond.static yL_in ∈ lw_good := bB 936 (by decide +kernel) (by decide +kernel)
theorem b_937 : Cond.code yL_in cL_in 3 (some .int) ∈ lw_good := bB 937 (by decide +kernel) (by decide +kernel)
theorem b_1233 : Cond.methodLink "YarnMillLaw" 123 yL_setMachines ∈ lw_good := bB 1233 (by decide +kernel) (by decide +kernel)
theorem b_1234 : Cond.static yL_setMachines ∈ lw_good := bB 1234 (by decide +kernel) (by decide +kernel)
theorem b_1235 : Cond.codeWith yL_setMachines cL_setMachines 3 (some .int) [((0 : Nat), (5 : Nat), (6 : Nat), (15 : Nat))] ∈ lw_good := bB 1235 (by decide +kernel) (by decide +kernel)
theorem b_1255 : Cond.methodLink "YarnMillLaw" 138 yL_order ∈ lw_good := bB 1255 (by decide +kernel) (by decide +kernel)
theorem b_1256 : Cond.static yL_order ∈ lw_good := bB 1256 (by decide +kernel) (by decide +kernel)
theorem b_1257 : Cond.code yL_order cL_order 2 (some .int) ∈ lw_good := bB 1257 (by decide +kernel) (by decide +kernel)
theorem b_1270 : Cond.methodLink "YarnMillLaw" 141 yL_cancelOrder ∈ lw_good := bB 1270 (by decide +kernel) (by decide +kernel)
theorem b_1271 : Cond.static yL_cancelOrder ∈ lw_good := bB 1271 (by decide +kernel) (by decide +kernel)
theorem b_1272 : Cond.codeWith yL_cancelOrder cL_cancelOrder 3 (some .int) [((0 : Nat), (5 : Nat), (6 : Nat), (35 : Nat))] ∈ lw_good := bB 1272 (by decide +kernel) (by decide +kernel)
theorem b_1279 : Cond.methodLink "YarnMillLaw" 143 yL_splice ∈ lw_good := bB 1279 (by decide +kernel) (by decide +kernel)
theorem b_1280 : Cond.static yL_splice ∈ lw_good := bB 1280 (by decide +kernel) (by decide +kernel)
theorem b_1281 : Cond.codeWith yL_splice cL_splice 3 (some .int) [((0 : Nat), (5 : Nat), (6 : Nat), (46 : Nat))] ∈ lw_good := bB 1281 (by decide +kernel) (by decide +kernel)
theorem b_1288 : Cond.methodLink "YarnMillLaw" 145 yL_spliceAll ∈ lw_good := bB 1288 (by decide +kernel) (by decide +kernel)
theorem b_1289 : Cond.static yL_spliceAll ∈ lw_good := bB 1289 (by decide +kernel) (by decide +kernel)
theorem b_1290 : Cond.codeWith yL_spliceAll cL_spliceAll 2 (some .int) [((0 : Nat), (4 : Nat), (5 : Nat), (18 : Nat))] ∈ lw_good := bB 1290 (by decide +kernel) (by decide +kernel)
theorem b_1300 : Cond.methodLink "YarnMillLaw" 154 yJ4_append_15ec4 ∈ lw_good := bB 1300 (by decide +kernel) (by decide +kernel)
theorem b_1301 : Cond.methodLink "YarnMillLaw" 158 yJ4_append_bf812 ∈ lw_good := bB 1301 (by decide +kernel) (by decide +kernel)
theorem b_1311 : Cond.methodLink "YarnMillLaw" 181 yL_does ∈ lw_good := bB 1311 (by decide +kernel) (by decide +kernel)
theorem b_1312 : Cond.static yL_does ∈ lw_good := bB 1312 (by decide +kernel) (by decide +kernel)
theorem b_1313 : Cond.code yL_does cL_does 4 (some .int) ∈ lw_good := bB 1313 (by decide +kernel) (by decide +kernel)
theorem b_1435 : Cond.methodLink "YarnMillLaw" 191 yX12_clock ∈ lw_good := bB 1435 (by decide +kernel) (by decide +kernel)
theorem b_1436 : Cond.instanceMethod yX12_clock ∈ lw_good := bB 1436 (by decide +kernel) (by decide +kernel)
theorem b_1437 : Cond.selects "YarnMill" yX12_clock yX12_clock ∈ lw_good := bB 1437 (by decide +kernel) (by decide +kernel)
theorem b_1438 : Cond.code yX12_clock cX12_clock 1 (some .int) ∈ lw_good := bB 1438 (by decide +kernel) (by decide +kernel)
theorem b_1443 : Cond.methodLink "YarnMillLaw" 197 yX12_spunTotal ∈ lw_good := bB 1443 (by decide +kernel) (by decide +kernel)
theorem b_1444 : Cond.instanceMethod yX12_spunTotal ∈ lw_good := bB 1444 (by decide +kernel) (by decide +kernel)
theorem b_1445 : Cond.selects "YarnMill" yX12_spunTotal yX12_spunTotal ∈ lw_good := bB 1445 (by decide +kernel) (by decide +kernel)
theorem b_1446 : Cond.code yX12_spunTotal cX12_spunTotal 1 (some .int) ∈ lw_good := bB 1446 (by decide +kernel) (by decide +kernel)
theorem b_1447 : Cond.methodLink "YarnMillLaw" 200 yX12_wasteTotal ∈ lw_good := bB 1447 (by decide +kernel) (by decide +kernel)
theorem b_1448 : Cond.instanceMethod yX12_wasteTotal ∈ lw_good := bB 1448 (by decide +kernel) (by decide +kernel)
theorem b_1449 : Cond.selects "YarnMill" yX12_wasteTotal yX12_wasteTotal ∈ lw_good := bB 1449 (by decide +kernel) (by decide +kernel)
theorem b_1450 : Cond.code yX12_wasteTotal cX12_wasteTotal 1 (some .int) ∈ lw_good := bB 1450 (by decide +kernel) (by decide +kernel)
theorem b_1451 : Cond.methodLink "YarnMillLaw" 203 yX12_soldTotal ∈ lw_good := bB 1451 (by decide +kernel) (by decide +kernel)
theorem b_1452 : Cond.instanceMethod yX12_soldTotal ∈ lw_good := bB 1452 (by decide +kernel) (by decide +kernel)
theorem b_1453 : Cond.selects "YarnMill" yX12_soldTotal yX12_soldTotal ∈ lw_good := bB 1453 (by decide +kernel) (by decide +kernel)
theorem b_1454 : Cond.code yX12_soldTotal cX12_soldTotal 1 (some .int) ∈ lw_good := bB 1454 (by decide +kernel) (by decide +kernel)
theorem b_1459 : Cond.methodLink "YarnMillLaw" 209 yX12_weight ∈ lw_good := bB 1459 (by decide +kernel) (by decide +kernel)
theorem b_1460 : Cond.instanceMethod yX12_weight ∈ lw_good := bB 1460 (by decide +kernel) (by decide +kernel)
theorem b_1461 : Cond.selects "YarnMill" yX12_weight yX12_weight ∈ lw_good := bB 1461 (by decide +kernel) (by decide +kernel)
theorem b_1462 : Cond.code yX12_weight cX12_weight 2 (some .int) ∈ lw_good := bB 1462 (by decide +kernel) (by decide +kernel)
theorem b_1463 : Cond.methodLink "YarnMillLaw" 212 yX12_staple ∈ lw_good := bB 1463 (by decide +kernel) (by decide +kernel)
theorem b_1464 : Cond.instanceMethod yX12_staple ∈ lw_good := bB 1464 (by decide +kernel) (by decide +kernel)
theorem b_1465 : Cond.selects "YarnMill" yX12_staple yX12_staple ∈ lw_good := bB 1465 (by decide +kernel) (by decide +kernel)
theorem b_1466 : Cond.code yX12_staple cX12_staple 2 (some .int) ∈ lw_good := bB 1466 (by decide +kernel) (by decide +kernel)
theorem b_1467 : Cond.methodLink "YarnMillLaw" 215 yX12_price ∈ lw_good := bB 1467 (by decide +kernel) (by decide +kernel)
theorem b_1468 : Cond.instanceMethod yX12_price ∈ lw_good := bB 1468 (by decide +kernel) (by decide +kernel)
theorem b_1469 : Cond.selects "YarnMill" yX12_price yX12_price ∈ lw_good := bB 1469 (by decide +kernel) (by decide +kernel)
theorem b_1470 : Cond.code yX12_price cX12_price 2 (some .int) ∈ lw_good := bB 1470 (by decide +kernel) (by decide +kernel)
theorem gc_YLaw_108 {K : Fr} {cells slots : Nat} {σ : Mem} {cc : ByteArray} {nL pc fr lo mc ms : Nat} {ret : Option FieldType} {Qm : Option Value → Mem → Prop} {E : String → Mem → Prop} {lv : List (Option Value)} {st : List Value} (B : Bd K cc "YarnMillLaw" nL ret fr lo mc ms Qm E) (S : Scr) (hS : scr (fX K) = S) {a2 : Int32} {a3 : Int32} {Q : Int32 → Mem → Prop} (hM : MetG (fL K) (fX K) yL_in cL_in 3 (some .int) 1 22 0 0 [.ref (xen (fX K) 5 0), .int a2, .int a3] σ (RI Q) E) (hfr : 2 ≤ fr) (hlo : 44 ≤ lo) (hst : (st.map fun v => v.category).sum ≤ 8) (hc : cells ≤ mc) (hs : slots ≤ ms) (hdg : decode cc pc = .ok (.invokestatic 108, 3)) {np : Nat} (hp : pc + 3 = np) (kk : ∀ (r : Int32) (τ : Mem), Q r τ → Go K cells slots τ np lv (.int r :: st)) : Go K cells slots σ pc lv (.int a3 :: .int a2 :: .ref (xen (fX K) 5 0) :: st) := g_callS B (n := 3) hM b_937 b_935 b_936 b_25 (by decide +kernel) rfl hfr hlo hst hdg hc hs (fun _ _ q => q) hp (fun r τ ⟨i, e, q⟩ => by subst e; exact kk i τ q)
theorem gc_YLaw_112 {K : Fr} {cells slots : Nat} {σ : Mem} {cc : ByteArray} {nL pc fr lo mc ms : Nat} {ret : Option FieldType} {Qm : Option Value → Mem → Prop} {E : String → Mem → Prop} {lv : List (Option Value)} {st : List Value} (B : Bd K cc "YarnMillLaw" nL ret fr lo mc ms Qm E)   {a2 : Int32} {a3 : Int32} {a4 : Int32} {Q : Int32 → Mem → Prop} (hM : MetH (fL K) (fX K) yL_buyBale cL_buyBale 5 [(0, 7, 8, 15), (0, 7, 13, 18), (0, 7, 18, 21)] 9 192 1 6 [.ref (xad (fX K) 14 0), .int a2, .int a3, .int a4] σ (RI Q)) (hfr : 10 ≤ fr) (hlo : 216 ≤ lo) (hst : (st.map fun v => v.category).sum ≤ 8) (hc : cells + 1 ≤ mc) (hs : slots + 6 ≤ ms) (hdg : decode cc pc = .ok (.invokestatic 112, 3)) {np : Nat} (hp : pc + 3 = np) (kk : ∀ (r : Int32) (τ : Mem), Q r τ → Go K (cells + 1) (slots + 6) τ np lv (.int r :: st)) : Go K cells slots σ pc lv (.int a4 :: .int a3 :: .int a2 :: .ref (xad (fX K) 14 0) :: st) := g_callSH B (n := 4) hM b_503 b_501 b_502 b_25 (by decide +kernel) rfl hfr hlo hst hdg hc hs hp (fun r τ ⟨i, e, q⟩ => by subst e; exact kk i τ q)
theorem gc_YLaw_115 {K : Fr} {cells slots : Nat} {σ : Mem} {cc : ByteArray} {nL pc fr lo mc ms : Nat} {ret : Option FieldType} {Qm : Option Value → Mem → Prop} {E : String → Mem → Prop} {lv : List (Option Value)} {st : List Value} (B : Bd K cc "YarnMillLaw" nL ret fr lo mc ms Qm E)   {a2 : Int32} {a3 : Int32} {Q : Int32 → Mem → Prop} (hM : MetH (fL K) (fX K) yL_blend cL_blend 4 [(0, 6, 7, 15), (0, 6, 11, 21), (0, 6, 15, 18)] 9 191 1 6 [.ref (xad (fX K) 14 0), .int a2, .int a3] σ (RI Q)) (hfr : 10 ≤ fr) (hlo : 214 ≤ lo) (hst : (st.map fun v => v.category).sum ≤ 8) (hc : cells + 1 ≤ mc) (hs : slots + 6 ≤ ms) (hdg : decode cc pc = .ok (.invokestatic 115, 3)) {np : Nat} (hp : pc + 3 = np) (kk : ∀ (r : Int32) (τ : Mem), Q r τ → Go K (cells + 1) (slots + 6) τ np lv (.int r :: st)) : Go K cells slots σ pc lv (.int a3 :: .int a2 :: .ref (xad (fX K) 14 0) :: st) := g_callSH B (n := 3) hM b_807 b_805 b_806 b_25 (by decide +kernel) rfl hfr hlo hst hdg hc hs hp (fun r τ ⟨i, e, q⟩ => by subst e; exact kk i τ q)
theorem gc_YLaw_118 {K : Fr} {cells slots : Nat} {σ : Mem} {cc : ByteArray} {nL pc fr lo mc ms : Nat} {ret : Option FieldType} {Qm : Option Value → Mem → Prop} {E : String → Mem → Prop} {lv : List (Option Value)} {st : List Value} (B : Bd K cc "YarnMillLaw" nL ret fr lo mc ms Qm E)   {a2 : Int32} {a3 : Int32} {Q : Int32 → Mem → Prop} (hM : MetH (fL K) (fX K) yL_addOrder cL_addOrder 4 [(0, 6, 7, 15), (0, 6, 11, 18)] 9 191 1 6 [.ref (xad (fX K) 14 0), .int a2, .int a3] σ (RI Q)) (hfr : 10 ≤ fr) (hlo : 214 ≤ lo) (hst : (st.map fun v => v.category).sum ≤ 8) (hc : cells + 1 ≤ mc) (hs : slots + 6 ≤ ms) (hdg : decode cc pc = .ok (.invokestatic 118, 3)) {np : Nat} (hp : pc + 3 = np) (kk : ∀ (r : Int32) (τ : Mem), Q r τ → Go K (cells + 1) (slots + 6) τ np lv (.int r :: st)) : Go K cells slots σ pc lv (.int a3 :: .int a2 :: .ref (xad (fX K) 14 0) :: st) := g_callSH B (n := 3) hM b_816 b_814 b_815 b_25 (by decide +kernel) rfl hfr hlo hst hdg hc hs hp (fun r τ ⟨i, e, q⟩ => by subst e; exact kk i τ q)
theorem gc_YLaw_138 {K : Fr} {cells slots : Nat} {σ : Mem} {cc : ByteArray} {nL pc fr lo mc ms : Nat} {ret : Option FieldType} {Qm : Option Value → Mem → Prop} {E : String → Mem → Prop} {lv : List (Option Value)} {st : List Value} (B : Bd K cc "YarnMillLaw" nL ret fr lo mc ms Qm E)   {a2 : Int32} {Q : Int32 → Mem → Prop} (hM : MetG (fL K) (fX K) yL_order cL_order 2 (some .int) 7 103 1 6 [.ref (xad (fX K) 14 0), .int a2] σ (RI Q) E) (hfr : 8 ≤ fr) (hlo : 124 ≤ lo) (hst : (st.map fun v => v.category).sum ≤ 8) (hc : cells + 1 ≤ mc) (hs : slots + 6 ≤ ms) (hdg : decode cc pc = .ok (.invokestatic 138, 3)) {np : Nat} (hp : pc + 3 = np) (kk : ∀ (r : Int32) (τ : Mem), Q r τ → Go K (cells + 1) (slots + 6) τ np lv (.int r :: st)) : Go K cells slots σ pc lv (.int a2 :: .ref (xad (fX K) 14 0) :: st) := g_callS B (n := 2) hM b_1257 b_1255 b_1256 b_25 (by decide +kernel) rfl hfr hlo hst hdg hc hs (fun _ _ q => q) hp (fun r τ ⟨i, e, q⟩ => by subst e; exact kk i τ q)
theorem gc_YLaw_141 {K : Fr} {cells slots : Nat} {σ : Mem} {cc : ByteArray} {nL pc fr lo mc ms : Nat} {ret : Option FieldType} {Qm : Option Value → Mem → Prop} {E : String → Mem → Prop} {lv : List (Option Value)} {st : List Value} (B : Bd K cc "YarnMillLaw" nL ret fr lo mc ms Qm E)   {a2 : Int32} {Q : Int32 → Mem → Prop} (hM : MetH (fL K) (fX K) yL_cancelOrder cL_cancelOrder 3 [(0, 5, 6, 35)] 9 190 1 6 [.ref (xad (fX K) 14 0), .int a2] σ (RI Q)) (hfr : 10 ≤ fr) (hlo : 212 ≤ lo) (hst : (st.map fun v => v.category).sum ≤ 8) (hc : cells + 1 ≤ mc) (hs : slots + 6 ≤ ms) (hdg : decode cc pc = .ok (.invokestatic 141, 3)) {np : Nat} (hp : pc + 3 = np) (kk : ∀ (r : Int32) (τ : Mem), Q r τ → Go K (cells + 1) (slots + 6) τ np lv (.int r :: st)) : Go K cells slots σ pc lv (.int a2 :: .ref (xad (fX K) 14 0) :: st) := g_callSH B (n := 2) hM b_1272 b_1270 b_1271 b_25 (by decide +kernel) rfl hfr hlo hst hdg hc hs hp (fun r τ ⟨i, e, q⟩ => by subst e; exact kk i τ q)
theorem gc_YLaw_123 {K : Fr} {cells slots : Nat} {σ : Mem} {cc : ByteArray} {nL pc fr lo mc ms : Nat} {ret : Option FieldType} {Qm : Option Value → Mem → Prop} {E : String → Mem → Prop} {lv : List (Option Value)} {st : List Value} (B : Bd K cc "YarnMillLaw" nL ret fr lo mc ms Qm E)   {a2 : Int32} {Q : Int32 → Mem → Prop} (hM : MetH (fL K) (fX K) yL_setMachines cL_setMachines 3 [(0, 5, 6, 15)] 9 190 1 6 [.ref (xad (fX K) 14 0), .int a2] σ (RI Q)) (hfr : 10 ≤ fr) (hlo : 212 ≤ lo) (hst : (st.map fun v => v.category).sum ≤ 8) (hc : cells + 1 ≤ mc) (hs : slots + 6 ≤ ms) (hdg : decode cc pc = .ok (.invokestatic 123, 3)) {np : Nat} (hp : pc + 3 = np) (kk : ∀ (r : Int32) (τ : Mem), Q r τ → Go K (cells + 1) (slots + 6) τ np lv (.int r :: st)) : Go K cells slots σ pc lv (.int a2 :: .ref (xad (fX K) 14 0) :: st) := g_callSH B (n := 2) hM b_1235 b_1233 b_1234 b_25 (by decide +kernel) rfl hfr hlo hst hdg hc hs hp (fun r τ ⟨i, e, q⟩ => by subst e; exact kk i τ q)
theorem gc_YLaw_120 {K : Fr} {cells slots : Nat} {σ : Mem} {cc : ByteArray} {nL pc fr lo mc ms : Nat} {ret : Option FieldType} {Qm : Option Value → Mem → Prop} {E : String → Mem → Prop} {lv : List (Option Value)} {st : List Value} (B : Bd K cc "YarnMillLaw" nL ret fr lo mc ms Qm E)   {a2 : Int32} {Q : Int32 → Mem → Prop} (hM : MetH (fL K) (fX K) yL_spin cL_spin 3 [(0, 5, 6, 35), (0, 5, 10, 21), (0, 5, 14, 18)] 9 190 1 6 [.ref (xad (fX K) 14 0), .int a2] σ (RI Q)) (hfr : 10 ≤ fr) (hlo : 212 ≤ lo) (hst : (st.map fun v => v.category).sum ≤ 8) (hc : cells + 1 ≤ mc) (hs : slots + 6 ≤ ms) (hdg : decode cc pc = .ok (.invokestatic 120, 3)) {np : Nat} (hp : pc + 3 = np) (kk : ∀ (r : Int32) (τ : Mem), Q r τ → Go K (cells + 1) (slots + 6) τ np lv (.int r :: st)) : Go K cells slots σ pc lv (.int a2 :: .ref (xad (fX K) 14 0) :: st) := g_callSH B (n := 2) hM b_825 b_823 b_824 b_25 (by decide +kernel) rfl hfr hlo hst hdg hc hs hp (fun r τ ⟨i, e, q⟩ => by subst e; exact kk i τ q)
theorem gc_YLaw_143 {K : Fr} {cells slots : Nat} {σ : Mem} {cc : ByteArray} {nL pc fr lo mc ms : Nat} {ret : Option FieldType} {Qm : Option Value → Mem → Prop} {E : String → Mem → Prop} {lv : List (Option Value)} {st : List Value} (B : Bd K cc "YarnMillLaw" nL ret fr lo mc ms Qm E)   {a2 : Int32} {Q : Int32 → Mem → Prop} (hM : MetH (fL K) (fX K) yL_splice cL_splice 3 [(0, 5, 6, 46)] 9 190 1 6 [.ref (xad (fX K) 14 0), .int a2] σ (RI Q)) (hfr : 10 ≤ fr) (hlo : 212 ≤ lo) (hst : (st.map fun v => v.category).sum ≤ 8) (hc : cells + 1 ≤ mc) (hs : slots + 6 ≤ ms) (hdg : decode cc pc = .ok (.invokestatic 143, 3)) {np : Nat} (hp : pc + 3 = np) (kk : ∀ (r : Int32) (τ : Mem), Q r τ → Go K (cells + 1) (slots + 6) τ np lv (.int r :: st)) : Go K cells slots σ pc lv (.int a2 :: .ref (xad (fX K) 14 0) :: st) := g_callSH B (n := 2) hM b_1281 b_1279 b_1280 b_25 (by decide +kernel) rfl hfr hlo hst hdg hc hs hp (fun r τ ⟨i, e, q⟩ => by subst e; exact kk i τ q)
theorem gc_YLaw_145 {K : Fr} {cells slots : Nat} {σ : Mem} {cc : ByteArray} {nL pc fr lo mc ms : Nat} {ret : Option FieldType} {Qm : Option Value → Mem → Prop} {E : String → Mem → Prop} {lv : List (Option Value)} {st : List Value} (B : Bd K cc "YarnMillLaw" nL ret fr lo mc ms Qm E)    {Q : Int32 → Mem → Prop} (hM : MetH (fL K) (fX K) yL_spliceAll cL_spliceAll 2 [(0, 4, 5, 18)] 9 189 1 6 [.ref (xad (fX K) 14 0)] σ (RI Q)) (hfr : 10 ≤ fr) (hlo : 210 ≤ lo) (hst : (st.map fun v => v.category).sum ≤ 8) (hc : cells + 1 ≤ mc) (hs : slots + 6 ≤ ms) (hdg : decode cc pc = .ok (.invokestatic 145, 3)) {np : Nat} (hp : pc + 3 = np) (kk : ∀ (r : Int32) (τ : Mem), Q r τ → Go K (cells + 1) (slots + 6) τ np lv (.int r :: st)) : Go K cells slots σ pc lv (.ref (xad (fX K) 14 0) :: st) := g_callSH B (n := 1) hM b_1290 b_1288 b_1289 b_25 (by decide +kernel) rfl hfr hlo hst hdg hc hs hp (fun r τ ⟨i, e, q⟩ => by subst e; exact kk i τ q)
theorem gc_YLaw_147 {K : Fr} {cells slots : Nat} {σ : Mem} {cc : ByteArray} {nL pc fr lo mc ms : Nat} {ret : Option FieldType} {Qm : Option Value → Mem → Prop} {E : String → Mem → Prop} {lv : List (Option Value)} {st : List Value} (B : Bd K cc "YarnMillLaw" nL ret fr lo mc ms Qm E)   {a2 : Int32} {Q : Int32 → Mem → Prop} (hM : MetH (fL K) (fX K) yL_sell cL_sell 3 [(0, 5, 6, 46)] 9 190 1 6 [.ref (xad (fX K) 14 0), .int a2] σ (RI Q)) (hfr : 10 ≤ fr) (hlo : 212 ≤ lo) (hst : (st.map fun v => v.category).sum ≤ 8) (hc : cells + 1 ≤ mc) (hs : slots + 6 ≤ ms) (hdg : decode cc pc = .ok (.invokestatic 147, 3)) {np : Nat} (hp : pc + 3 = np) (kk : ∀ (r : Int32) (τ : Mem), Q r τ → Go K (cells + 1) (slots + 6) τ np lv (.int r :: st)) : Go K cells slots σ pc lv (.int a2 :: .ref (xad (fX K) 14 0) :: st) := g_callSH B (n := 2) hM b_835 b_833 b_834 b_25 (by decide +kernel) rfl hfr hlo hst hdg hc hs hp (fun r τ ⟨i, e, q⟩ => by subst e; exact kk i τ q)
theorem gc_YLaw_154 {K : Fr} {cells slots : Nat} {σ : Mem} {cc : ByteArray} {nL pc fr lo mc ms : Nat} {ret : Option FieldType} {Qm : Option Value → Mem → Prop} {E : String → Mem → Prop} {lv : List (Option Value)} {st : List Value} (B : Bd K cc "YarnMillLaw" nL ret fr lo mc ms Qm E) (k : Nat) (hk : k < oCnt (fX K) 13) {a1 : Nat} {Q : Mem → Prop} (hM : MetG (fL K) (fX K) yJ4_append_15ec4 cJ4_append_15ec4 2 (some (.object "java/lang/StringBuilder")) 8 244 1 302 [.ref (xad (fX K) 13 k), .ref (xen (fX K) 3 a1)] σ (RR (xad (fX K) 13 k) Q) E) (hfr : 9 ≤ fr) (hlo : 265 ≤ lo) (hst : (st.map fun v => v.category).sum ≤ 8) (hc : cells + 1 ≤ mc) (hs : slots + 302 ≤ ms) (hdg : decode cc pc = .ok (.invokevirtual 154, 3)) {np : Nat} (hp : pc + 3 = np) (kk : ∀ (τ : Mem), Q τ → Go K (cells + 1) (slots + 302) τ np lv (.ref (xad (fX K) 13 k) :: st)) : Go K cells slots σ pc lv (.ref (xen (fX K) 3 a1) :: .ref (xad (fX K) 13 k) :: st) := g_callV B 13 k hk rfl rfl rfl hM b_117 b_1300 b_115 b_116 b_38 (n := 1) (by decide +kernel) rfl hfr hlo hst hdg hc hs (fun _ _ q => q) hp (fun r τ ⟨e, q⟩ => by subst e; exact kk τ q)
theorem gc_YLaw_158 {K : Fr} {cells slots : Nat} {σ : Mem} {cc : ByteArray} {nL pc fr lo mc ms : Nat} {ret : Option FieldType} {Qm : Option Value → Mem → Prop} {E : String → Mem → Prop} {lv : List (Option Value)} {st : List Value} (B : Bd K cc "YarnMillLaw" nL ret fr lo mc ms Qm E) (k : Nat) (hk : k < oCnt (fX K) 13) {a1 : Int32} {Q : Mem → Prop} (hM : MetG (fL K) (fX K) yJ4_append_bf812 cJ4_append_bf812 2 (some (.object "java/lang/StringBuilder")) 8 245 1 302 [.ref (xad (fX K) 13 k), .int a1] σ (RR (xad (fX K) 13 k) Q) E) (hfr : 9 ≤ fr) (hlo : 266 ≤ lo) (hst : (st.map fun v => v.category).sum ≤ 8) (hc : cells + 1 ≤ mc) (hs : slots + 302 ≤ ms) (hdg : decode cc pc = .ok (.invokevirtual 158, 3)) {np : Nat} (hp : pc + 3 = np) (kk : ∀ (τ : Mem), Q τ → Go K (cells + 1) (slots + 302) τ np lv (.ref (xad (fX K) 13 k) :: st)) : Go K cells slots σ pc lv (.int a1 :: .ref (xad (fX K) 13 k) :: st) := g_callV B 13 k hk rfl rfl rfl hM b_237 b_1301 b_235 b_236 b_38 (n := 1) (by decide +kernel) rfl hfr hlo hst hdg hc hs (fun _ _ q => q) hp (fun r τ ⟨e, q⟩ => by subst e; exact kk τ q)
theorem gc_YLaw_181 {K : Fr} {cells slots : Nat} {σ : Mem} {cc : ByteArray} {nL pc fr lo mc ms : Nat} {ret : Option FieldType} {Qm : Option Value → Mem → Prop} {E : String → Mem → Prop} {lv : List (Option Value)} {st : List Value} (B : Bd K cc "YarnMillLaw" nL ret fr lo mc ms Qm E) (k : Nat) (hk : k < oCnt (fX K) 21)  {Q : Int32 → Mem → Prop} (hM : MetG (fL K) (fX K) yL_does cL_does 4 (some .int) 12 327 63 18730 [.ref (xad (fX K) 14 0), .ref (xad (fX K) 20 k)] σ (RI Q) E) (hfr : 13 ≤ fr) (hlo : 350 ≤ lo) (hst : (st.map fun v => v.category).sum ≤ 8) (hc : cells + 63 ≤ mc) (hs : slots + 18730 ≤ ms) (hdg : decode cc pc = .ok (.invokestatic 181, 3)) {np : Nat} (hp : pc + 3 = np) (kk : ∀ (r : Int32) (τ : Mem), Q r τ → Go K (cells + 63) (slots + 18730) τ np lv (.int r :: st)) : Go K cells slots σ pc lv (.ref (xad (fX K) 20 k) :: .ref (xad (fX K) 14 0) :: st) := g_callS B (n := 2) hM b_1313 b_1311 b_1312 b_25 (by decide +kernel) rfl hfr hlo hst hdg hc hs (fun _ _ q => q) hp (fun r τ ⟨i, e, q⟩ => by subst e; exact kk i τ q)
theorem gc_YLaw_191 {K : Fr} {cells slots : Nat} {σ : Mem} {cc : ByteArray} {nL pc fr lo mc ms : Nat} {ret : Option FieldType} {Qm : Option Value → Mem → Prop} {E : String → Mem → Prop} {lv : List (Option Value)} {st : List Value} (B : Bd K cc "YarnMillLaw" nL ret fr lo mc ms Qm E)    {Q : Int32 → Mem → Prop} (hM : MetG (fL K) (fX K) yX12_clock cX12_clock 1 (some .int) 0 0 0 0 [.ref (xad (fX K) 14 0)] σ (RI Q) E) (hfr : 1 ≤ fr) (hlo : 20 ≤ lo) (hst : (st.map fun v => v.category).sum ≤ 8) (hc : cells ≤ mc) (hs : slots ≤ ms) (hdg : decode cc pc = .ok (.invokevirtual 191, 3)) {np : Nat} (hp : pc + 3 = np) (kk : ∀ (r : Int32) (τ : Mem), Q r τ → Go K cells slots τ np lv (.int r :: st)) : Go K cells slots σ pc lv (.ref (xad (fX K) 14 0) :: st) := g_callV B 14 0 (by decide : (0 : Nat) < 1) rfl rfl rfl hM b_1438 b_1435 b_1436 b_1437 b_26 (n := 0) (by decide +kernel) rfl hfr hlo hst hdg hc hs (fun _ _ q => q) hp (fun r τ ⟨i, e, q⟩ => by subst e; exact kk i τ q)
theorem gc_YLaw_197 {K : Fr} {cells slots : Nat} {σ : Mem} {cc : ByteArray} {nL pc fr lo mc ms : Nat} {ret : Option FieldType} {Qm : Option Value → Mem → Prop} {E : String → Mem → Prop} {lv : List (Option Value)} {st : List Value} (B : Bd K cc "YarnMillLaw" nL ret fr lo mc ms Qm E)    {Q : Int32 → Mem → Prop} (hM : MetG (fL K) (fX K) yX12_spunTotal cX12_spunTotal 1 (some .int) 0 0 0 0 [.ref (xad (fX K) 14 0)] σ (RI Q) E) (hfr : 1 ≤ fr) (hlo : 20 ≤ lo) (hst : (st.map fun v => v.category).sum ≤ 8) (hc : cells ≤ mc) (hs : slots ≤ ms) (hdg : decode cc pc = .ok (.invokevirtual 197, 3)) {np : Nat} (hp : pc + 3 = np) (kk : ∀ (r : Int32) (τ : Mem), Q r τ → Go K cells slots τ np lv (.int r :: st)) : Go K cells slots σ pc lv (.ref (xad (fX K) 14 0) :: st) := g_callV B 14 0 (by decide : (0 : Nat) < 1) rfl rfl rfl hM b_1446 b_1443 b_1444 b_1445 b_26 (n := 0) (by decide +kernel) rfl hfr hlo hst hdg hc hs (fun _ _ q => q) hp (fun r τ ⟨i, e, q⟩ => by subst e; exact kk i τ q)
theorem gc_YLaw_200 {K : Fr} {cells slots : Nat} {σ : Mem} {cc : ByteArray} {nL pc fr lo mc ms : Nat} {ret : Option FieldType} {Qm : Option Value → Mem → Prop} {E : String → Mem → Prop} {lv : List (Option Value)} {st : List Value} (B : Bd K cc "YarnMillLaw" nL ret fr lo mc ms Qm E)    {Q : Int32 → Mem → Prop} (hM : MetG (fL K) (fX K) yX12_wasteTotal cX12_wasteTotal 1 (some .int) 0 0 0 0 [.ref (xad (fX K) 14 0)] σ (RI Q) E) (hfr : 1 ≤ fr) (hlo : 20 ≤ lo) (hst : (st.map fun v => v.category).sum ≤ 8) (hc : cells ≤ mc) (hs : slots ≤ ms) (hdg : decode cc pc = .ok (.invokevirtual 200, 3)) {np : Nat} (hp : pc + 3 = np) (kk : ∀ (r : Int32) (τ : Mem), Q r τ → Go K cells slots τ np lv (.int r :: st)) : Go K cells slots σ pc lv (.ref (xad (fX K) 14 0) :: st) := g_callV B 14 0 (by decide : (0 : Nat) < 1) rfl rfl rfl hM b_1450 b_1447 b_1448 b_1449 b_26 (n := 0) (by decide +kernel) rfl hfr hlo hst hdg hc hs (fun _ _ q => q) hp (fun r τ ⟨i, e, q⟩ => by subst e; exact kk i τ q)
theorem gc_YLaw_203 {K : Fr} {cells slots : Nat} {σ : Mem} {cc : ByteArray} {nL pc fr lo mc ms : Nat} {ret : Option FieldType} {Qm : Option Value → Mem → Prop} {E : String → Mem → Prop} {lv : List (Option Value)} {st : List Value} (B : Bd K cc "YarnMillLaw" nL ret fr lo mc ms Qm E)    {Q : Int32 → Mem → Prop} (hM : MetG (fL K) (fX K) yX12_soldTotal cX12_soldTotal 1 (some .int) 0 0 0 0 [.ref (xad (fX K) 14 0)] σ (RI Q) E) (hfr : 1 ≤ fr) (hlo : 20 ≤ lo) (hst : (st.map fun v => v.category).sum ≤ 8) (hc : cells ≤ mc) (hs : slots ≤ ms) (hdg : decode cc pc = .ok (.invokevirtual 203, 3)) {np : Nat} (hp : pc + 3 = np) (kk : ∀ (r : Int32) (τ : Mem), Q r τ → Go K cells slots τ np lv (.int r :: st)) : Go K cells slots σ pc lv (.ref (xad (fX K) 14 0) :: st) := g_callV B 14 0 (by decide : (0 : Nat) < 1) rfl rfl rfl hM b_1454 b_1451 b_1452 b_1453 b_26 (n := 0) (by decide +kernel) rfl hfr hlo hst hdg hc hs (fun _ _ q => q) hp (fun r τ ⟨i, e, q⟩ => by subst e; exact kk i τ q)
theorem gc_YLaw_209 {K : Fr} {cells slots : Nat} {σ : Mem} {cc : ByteArray} {nL pc fr lo mc ms : Nat} {ret : Option FieldType} {Qm : Option Value → Mem → Prop} {E : String → Mem → Prop} {lv : List (Option Value)} {st : List Value} (B : Bd K cc "YarnMillLaw" nL ret fr lo mc ms Qm E)   {a1 : Int32} {Q : Int32 → Mem → Prop} (hM : MetG (fL K) (fX K) yX12_weight cX12_weight 2 (some .int) 7 104 1 6 [.ref (xad (fX K) 14 0), .int a1] σ (RI Q) E) (hfr : 8 ≤ fr) (hlo : 125 ≤ lo) (hst : (st.map fun v => v.category).sum ≤ 8) (hc : cells + 1 ≤ mc) (hs : slots + 6 ≤ ms) (hdg : decode cc pc = .ok (.invokevirtual 209, 3)) {np : Nat} (hp : pc + 3 = np) (kk : ∀ (r : Int32) (τ : Mem), Q r τ → Go K (cells + 1) (slots + 6) τ np lv (.int r :: st)) : Go K cells slots σ pc lv (.int a1 :: .ref (xad (fX K) 14 0) :: st) := g_callV B 14 0 (by decide : (0 : Nat) < 1) rfl rfl rfl hM b_1462 b_1459 b_1460 b_1461 b_26 (n := 1) (by decide +kernel) rfl hfr hlo hst hdg hc hs (fun _ _ q => q) hp (fun r τ ⟨i, e, q⟩ => by subst e; exact kk i τ q)
theorem gc_YLaw_212 {K : Fr} {cells slots : Nat} {σ : Mem} {cc : ByteArray} {nL pc fr lo mc ms : Nat} {ret : Option FieldType} {Qm : Option Value → Mem → Prop} {E : String → Mem → Prop} {lv : List (Option Value)} {st : List Value} (B : Bd K cc "YarnMillLaw" nL ret fr lo mc ms Qm E)   {a1 : Int32} {Q : Int32 → Mem → Prop} (hM : MetG (fL K) (fX K) yX12_staple cX12_staple 2 (some .int) 7 104 1 6 [.ref (xad (fX K) 14 0), .int a1] σ (RI Q) E) (hfr : 8 ≤ fr) (hlo : 125 ≤ lo) (hst : (st.map fun v => v.category).sum ≤ 8) (hc : cells + 1 ≤ mc) (hs : slots + 6 ≤ ms) (hdg : decode cc pc = .ok (.invokevirtual 212, 3)) {np : Nat} (hp : pc + 3 = np) (kk : ∀ (r : Int32) (τ : Mem), Q r τ → Go K (cells + 1) (slots + 6) τ np lv (.int r :: st)) : Go K cells slots σ pc lv (.int a1 :: .ref (xad (fX K) 14 0) :: st) := g_callV B 14 0 (by decide : (0 : Nat) < 1) rfl rfl rfl hM b_1466 b_1463 b_1464 b_1465 b_26 (n := 1) (by decide +kernel) rfl hfr hlo hst hdg hc hs (fun _ _ q => q) hp (fun r τ ⟨i, e, q⟩ => by subst e; exact kk i τ q)
theorem gc_YLaw_215 {K : Fr} {cells slots : Nat} {σ : Mem} {cc : ByteArray} {nL pc fr lo mc ms : Nat} {ret : Option FieldType} {Qm : Option Value → Mem → Prop} {E : String → Mem → Prop} {lv : List (Option Value)} {st : List Value} (B : Bd K cc "YarnMillLaw" nL ret fr lo mc ms Qm E)   {a1 : Int32} {Q : Int32 → Mem → Prop} (hM : MetG (fL K) (fX K) yX12_price cX12_price 2 (some .int) 7 104 1 6 [.ref (xad (fX K) 14 0), .int a1] σ (RI Q) E) (hfr : 8 ≤ fr) (hlo : 125 ≤ lo) (hst : (st.map fun v => v.category).sum ≤ 8) (hc : cells + 1 ≤ mc) (hs : slots + 6 ≤ ms) (hdg : decode cc pc = .ok (.invokevirtual 215, 3)) {np : Nat} (hp : pc + 3 = np) (kk : ∀ (r : Int32) (τ : Mem), Q r τ → Go K (cells + 1) (slots + 6) τ np lv (.int r :: st)) : Go K cells slots σ pc lv (.int a1 :: .ref (xad (fX K) 14 0) :: st) := g_callV B 14 0 (by decide : (0 : Nat) < 1) rfl rfl rfl hM b_1470 b_1467 b_1468 b_1469 b_26 (n := 1) (by decide +kernel) rfl hfr hlo hst hdg hc hs (fun _ _ q => q) hp (fun r τ ⟨i, e, q⟩ => by subst e; exact kk i τ q)
def wL_acts (S : Scr) (a3 : Int32) (s0 : Mem) (Q : Int32 → Mem → Prop) (E : String → Mem → Prop) : Prop := wL_in S (a3 + 1) 10 s0 (fun (r1 : Int32) (s2 : Mem) => wL_in S (a3 + 2) 62 s2 (fun (r3 : Int32) (s4 : Mem) => wL_in S (a3 + 3) 100 s4 (fun (r5 : Int32) (s6 : Mem) => wL_in S a3 26 s6 (fun (r7 : Int32) (s8 : Mem) => ((r7 = 0 → ((¬ r5 - r5 / 4 * 4 = 0 → wL_buyBale  (r5 - r5 / 52 * 52) (9 + (r3 - r3 / 53 * 53)) (1 + (r1 - r1 / 4 * 4)) s8 (fun (r9 : Int32) (s10 : Mem) => Q r9 s10) E) ∧ (r5 - r5 / 4 * 4 = 0 → wL_buyBale  (r5 - r5 / 52 * 52) (9 + (r3 - r3 / 53 * 53)) (r1 + 12) s8 (fun (r11 : Int32) (s12 : Mem) => Q r11 s12) E))) ∧ (r7 = 1 → ((¬ r5 - r5 / 4 * 4 = 0 → wL_buyBale  (r5 - r5 / 52 * 52) (9 + (r3 - r3 / 53 * 53)) (1 + (r1 - r1 / 4 * 4)) s8 (fun (r13 : Int32) (s14 : Mem) => Q r13 s14) E) ∧ (r5 - r5 / 4 * 4 = 0 → wL_buyBale  (r5 - r5 / 52 * 52) (9 + (r3 - r3 / 53 * 53)) (r1 + 12) s8 (fun (r15 : Int32) (s16 : Mem) => Q r15 s16) E))) ∧ (r7 = 2 → ((¬ r5 - r5 / 4 * 4 = 0 → wL_buyBale  (r5 - r5 / 52 * 52) (9 + (r3 - r3 / 53 * 53)) (1 + (r1 - r1 / 4 * 4)) s8 (fun (r17 : Int32) (s18 : Mem) => Q r17 s18) E) ∧ (r5 - r5 / 4 * 4 = 0 → wL_buyBale  (r5 - r5 / 52 * 52) (9 + (r3 - r3 / 53 * 53)) (r1 + 12) s8 (fun (r19 : Int32) (s20 : Mem) => Q r19 s20) E))) ∧ (r7 = 3 → ((¬ r5 - r5 / 4 * 4 = 0 → wL_buyBale  (r5 - r5 / 52 * 52) (9 + (r3 - r3 / 53 * 53)) (1 + (r1 - r1 / 4 * 4)) s8 (fun (r21 : Int32) (s22 : Mem) => Q r21 s22) E) ∧ (r5 - r5 / 4 * 4 = 0 → wL_buyBale  (r5 - r5 / 52 * 52) (9 + (r3 - r3 / 53 * 53)) (r1 + 12) s8 (fun (r23 : Int32) (s24 : Mem) => Q r23 s24) E))) ∧ (r7 = 4 → ((¬ r5 - r5 / 7 * 7 = 0 → ((¬ r5 - r5 / 9 * 9 = 0 → wL_blend  (1 + (r5 - r5 / 60 * 60)) (10 + (r3 - r3 / 40 * 40)) s8 (fun (r25 : Int32) (s26 : Mem) => Q r25 s26) E) ∧ (r5 - r5 / 9 * 9 = 0 → wL_blend  (1 + (r5 - r5 / 60 * 60)) r3 s8 (fun (r27 : Int32) (s28 : Mem) => Q r27 s28) E))) ∧ (r5 - r5 / 7 * 7 = 0 → ((¬ r5 - r5 / 9 * 9 = 0 → wL_blend  (6 * r5) (10 + (r3 - r3 / 40 * 40)) s8 (fun (r29 : Int32) (s30 : Mem) => Q r29 s30) E) ∧ (r5 - r5 / 9 * 9 = 0 → wL_blend  (6 * r5) r3 s8 (fun (r31 : Int32) (s32 : Mem) => Q r31 s32) E))))) ∧ (r7 = 5 → ((¬ r5 - r5 / 7 * 7 = 0 → ((¬ r5 - r5 / 9 * 9 = 0 → wL_blend  (1 + (r5 - r5 / 60 * 60)) (10 + (r3 - r3 / 40 * 40)) s8 (fun (r33 : Int32) (s34 : Mem) => Q r33 s34) E) ∧ (r5 - r5 / 9 * 9 = 0 → wL_blend  (1 + (r5 - r5 / 60 * 60)) r3 s8 (fun (r35 : Int32) (s36 : Mem) => Q r35 s36) E))) ∧ (r5 - r5 / 7 * 7 = 0 → ((¬ r5 - r5 / 9 * 9 = 0 → wL_blend  (6 * r5) (10 + (r3 - r3 / 40 * 40)) s8 (fun (r37 : Int32) (s38 : Mem) => Q r37 s38) E) ∧ (r5 - r5 / 9 * 9 = 0 → wL_blend  (6 * r5) r3 s8 (fun (r39 : Int32) (s40 : Mem) => Q r39 s40) E))))) ∧ (r7 = 6 → ((¬ r5 - r5 / 7 * 7 = 0 → ((¬ r5 - r5 / 9 * 9 = 0 → wL_blend  (1 + (r5 - r5 / 60 * 60)) (10 + (r3 - r3 / 40 * 40)) s8 (fun (r41 : Int32) (s42 : Mem) => Q r41 s42) E) ∧ (r5 - r5 / 9 * 9 = 0 → wL_blend  (1 + (r5 - r5 / 60 * 60)) r3 s8 (fun (r43 : Int32) (s44 : Mem) => Q r43 s44) E))) ∧ (r5 - r5 / 7 * 7 = 0 → ((¬ r5 - r5 / 9 * 9 = 0 → wL_blend  (6 * r5) (10 + (r3 - r3 / 40 * 40)) s8 (fun (r45 : Int32) (s46 : Mem) => Q r45 s46) E) ∧ (r5 - r5 / 9 * 9 = 0 → wL_blend  (6 * r5) r3 s8 (fun (r47 : Int32) (s48 : Mem) => Q r47 s48) E))))) ∧ (r7 = 7 → wL_addOrder  (r3 - r3 / 42 * 42) r1 s8 (fun (r49 : Int32) (s50 : Mem) => Q r49 s50) E) ∧ (r7 = 8 → wL_addOrder  (r3 - r3 / 42 * 42) r1 s8 (fun (r51 : Int32) (s52 : Mem) => Q r51 s52) E) ∧ (r7 = 9 → wL_addOrder  (r3 - r3 / 42 * 42) r1 s8 (fun (r53 : Int32) (s54 : Mem) => Q r53 s54) E) ∧ (r7 = 10 → wL_order  r1 s8 (fun (r55 : Int32) (s56 : Mem) => wL_cancelOrder  r55 s56 (fun (r57 : Int32) (s58 : Mem) => Q r57 s58) E) E) ∧ (r7 = 11 → wL_setMachines  (r1 - r1 / 5 * 5) s8 (fun (r59 : Int32) (s60 : Mem) => Q r59 s60) E) ∧ (r7 = 12 → wL_order  r1 s8 (fun (r61 : Int32) (s62 : Mem) => wL_spin  r61 s62 (fun (r63 : Int32) (s64 : Mem) => Q r63 s64) E) E) ∧ (r7 = 13 → wL_order  r1 s8 (fun (r65 : Int32) (s66 : Mem) => wL_spin  r65 s66 (fun (r67 : Int32) (s68 : Mem) => Q r67 s68) E) E) ∧ (r7 = 14 → wL_order  r1 s8 (fun (r69 : Int32) (s70 : Mem) => wL_spin  r69 s70 (fun (r71 : Int32) (s72 : Mem) => Q r71 s72) E) E) ∧ (r7 = 15 → wL_order  r1 s8 (fun (r73 : Int32) (s74 : Mem) => wL_spin  r73 s74 (fun (r75 : Int32) (s76 : Mem) => Q r75 s76) E) E) ∧ (r7 = 16 → wL_splice  (r1 - 1) s8 (fun (r77 : Int32) (s78 : Mem) => Q r77 s78) E) ∧ (r7 = 17 → wL_splice  (r1 - 1) s8 (fun (r79 : Int32) (s80 : Mem) => Q r79 s80) E) ∧ (r7 = 18 → wL_splice  (r1 - 1) s8 (fun (r81 : Int32) (s82 : Mem) => Q r81 s82) E) ∧ (r7 = 19 → wL_spliceAll   s8 (fun (r83 : Int32) (s84 : Mem) => Q r83 s84) E) ∧ (r7 = 20 → wL_sell  r1 s8 (fun (r85 : Int32) (s86 : Mem) => Q r85 s86) E) ∧ (r7 = 21 → wL_sell  r1 s8 (fun (r87 : Int32) (s88 : Mem) => Q r87 s88) E) ∧ (r7 = 22 → wL_sell  r1 s8 (fun (r89 : Int32) (s90 : Mem) => Q r89 s90) E) ∧ (¬ r7 = 0 ∧ ¬ r7 = 1 ∧ ¬ r7 = 2 ∧ ¬ r7 = 3 ∧ ¬ r7 = 4 ∧ ¬ r7 = 5 ∧ ¬ r7 = 6 ∧ ¬ r7 = 7 ∧ ¬ r7 = 8 ∧ ¬ r7 = 9 ∧ ¬ r7 = 10 ∧ ¬ r7 = 11 ∧ ¬ r7 = 12 ∧ ¬ r7 = 13 ∧ ¬ r7 = 14 ∧ ¬ r7 = 15 ∧ ¬ r7 = 16 ∧ ¬ r7 = 17 ∧ ¬ r7 = 18 ∧ ¬ r7 = 19 ∧ ¬ r7 = 20 ∧ ¬ r7 = 21 ∧ ¬ r7 = 22 → ((¬ r5 - r5 / 4 * 4 = 0 → ((¬ r5 - r5 / 4 * 4 = 1 → ((¬ r5 - r5 / 4 * 4 = 2 → ∀ s91 : Mem, NewB s8 s91 → wJ4_append_15ec4 2 16 s91 (fun (s93 : Mem) => wJ4_append_bf812 2 (r1 - r1 / 4 * 4) s93 (fun (s95 : Mem) => wJ4_append_15ec4 2 17 s95 (fun (s97 : Mem) => ∃ n99 : Nat, TsOk s97 2 n99 ∧ n99 ≤ 60 ∧ ∀ s98 : Mem, NewT s97 s98 2 n99 → wL_does 0  s98 (fun (r100 : Int32) (s101 : Mem) => Q r100 s101) E) E) E) E) ∧ (r5 - r5 / 4 * 4 = 2 → ∀ s102 : Mem, NewB s8 s102 → wJ4_append_15ec4 2 14 s102 (fun (s104 : Mem) => wJ4_append_bf812 2 r1 s104 (fun (s106 : Mem) => wJ4_append_15ec4 2 15 s106 (fun (s108 : Mem) => ∃ n110 : Nat, TsOk s108 2 n110 ∧ n110 ≤ 60 ∧ ∀ s109 : Mem, NewT s108 s109 2 n110 → wL_does 0  s109 (fun (r111 : Int32) (s112 : Mem) => Q r111 s112) E) E) E) E))) ∧ (r5 - r5 / 4 * 4 = 1 → ∀ s113 : Mem, NewB s8 s113 → wJ4_append_15ec4 2 12 s113 (fun (s115 : Mem) => wJ4_append_bf812 2 (1 + r1) s115 (fun (s117 : Mem) => wJ4_append_15ec4 2 13 s117 (fun (s119 : Mem) => wL_order  r1 s119 (fun (r120 : Int32) (s121 : Mem) => wJ4_append_bf812 2 r120 s121 (fun (s123 : Mem) => ∃ n125 : Nat, TsOk s123 2 n125 ∧ n125 ≤ 60 ∧ ∀ s124 : Mem, NewT s123 s124 2 n125 → wL_does 0  s124 (fun (r126 : Int32) (s127 : Mem) => Q r126 s127) E) E) E) E) E) E))) ∧ (r5 - r5 / 4 * 4 = 0 → ∀ s128 : Mem, NewB s8 s128 → wJ4_append_15ec4 2 9 s128 (fun (s130 : Mem) => wJ4_append_bf812 2 (1 + (r3 - r3 / 50 * 50)) s130 (fun (s132 : Mem) => wJ4_append_15ec4 2 10 s132 (fun (s134 : Mem) => wJ4_append_bf812 2 (1 + r1) s134 (fun (s136 : Mem) => wJ4_append_15ec4 2 11 s136 (fun (s138 : Mem) => ∃ n140 : Nat, TsOk s138 2 n140 ∧ n140 ≤ 60 ∧ ∀ s139 : Mem, NewT s138 s139 2 n140 → wL_does 0  s139 (fun (r141 : Int32) (s142 : Mem) => Q r141 s142) E) E) E) E) E) E))))) E) E) E) E
set_option maxRecDepth 20000 in
set_option maxHeartbeats 4000000 in
theorem oL_acts {l : Launch} {x : Ctx} (hl : l.stackTraces = false) (S : Scr) (hS : scr x = S) (hT : Tmp x) (a3 : Int32)  (s0 : Mem) (Q : Int32 → Mem → Prop) (E : String → Mem → Prop) (h : wL_acts S a3 s0 Q E) : MetG l x yL_acts cL_acts 6 (some .int) 13 350 72 20324 [.ref (xad x 14 0), .ref (xen x 5 0), .int a3] s0 (RI Q) E := by
  refine MetG.of hl (by decide) (Nat.le_of_ble_eq_true rfl) [some (.ref (xad x 14 0)), some (.ref (xen x 5 0)), some (.int a3), none, none, none] rfl (fun K B hx _ => ?_)
  subst hx
  unfold wL_acts at h
  refine g_aload_n (np := 1) B.1 dL_acts_0 rfl rfl ?_
  refine g_iload_n (np := 2) B.1 dL_acts_1 rfl rfl ?_
  refine g_iconst (np := 3) (v := 1) B.1 dL_acts_2 (by decide) rfl ?_
  refine g_iadd (np := 4) B.1 dL_acts_3 rfl ?_
  refine g_bipush (np := 6) (v := 10) B.1 dL_acts_4 (by decide) rfl ?_
  refine gc_YLaw_108 (np := 9) B S hS (oL_in B.1.tr S hS (a3 + 1) 10  _ _ _ h) (Nat.le_of_ble_eq_true rfl) (Nat.le_of_ble_eq_true rfl) (Nat.le_of_ble_eq_true rfl) (Nat.le_of_ble_eq_true rfl) (Nat.le_of_ble_eq_true rfl) dL_acts_6 rfl (fun r1 s2 h => ?_)
  refine g_istore_n (np := 10) (lv' := [some (.ref (xad (fX K) 14 0)), some (.ref (xen (fX K) 5 0)), some (.int a3), some (.int r1), none, none]) B.1 dL_acts_9 (by decide) rfl rfl rfl ?_
  refine g_aload_n (np := 11) B.1 dL_acts_10 rfl rfl ?_
  refine g_iload_n (np := 12) B.1 dL_acts_11 rfl rfl ?_
  refine g_iconst (np := 13) (v := 2) B.1 dL_acts_12 (by decide) rfl ?_
  refine g_iadd (np := 14) B.1 dL_acts_13 rfl ?_
  refine g_bipush (np := 16) (v := 62) B.1 dL_acts_14 (by decide) rfl ?_
  refine gc_YLaw_108 (np := 19) B S hS (oL_in B.1.tr S hS (a3 + 2) 62  _ _ _ h) (Nat.le_of_ble_eq_true rfl) (Nat.le_of_ble_eq_true rfl) (Nat.le_of_ble_eq_true rfl) (Nat.le_of_ble_eq_true rfl) (Nat.le_of_ble_eq_true rfl) dL_acts_16 rfl (fun r3 s4 h => ?_)
  refine g_istore (np := 21) (lv' := [some (.ref (xad (fX K) 14 0)), some (.ref (xen (fX K) 5 0)), some (.int a3), some (.int r1), some (.int r3), none]) B.1 dL_acts_19 (by decide) rfl rfl rfl ?_
  refine g_aload_n (np := 22) B.1 dL_acts_21 rfl rfl ?_
  refine g_iload_n (np := 23) B.1 dL_acts_22 rfl rfl ?_
  refine g_iconst (np := 24) (v := 3) B.1 dL_acts_23 (by decide) rfl ?_
  refine g_iadd (np := 25) B.1 dL_acts_24 rfl ?_
  refine g_bipush (np := 27) (v := 100) B.1 dL_acts_25 (by decide) rfl ?_
  refine gc_YLaw_108 (np := 30) B S hS (oL_in B.1.tr S hS (a3 + 3) 100  _ _ _ h) (Nat.le_of_ble_eq_true rfl) (Nat.le_of_ble_eq_true rfl) (Nat.le_of_ble_eq_true rfl) (Nat.le_of_ble_eq_true rfl) (Nat.le_of_ble_eq_true rfl) dL_acts_27 rfl (fun r5 s6 h => ?_)
  refine g_istore (np := 32) (lv' := [some (.ref (xad (fX K) 14 0)), some (.ref (xen (fX K) 5 0)), some (.int a3), some (.int r1), some (.int r3), some (.int r5)]) B.1 dL_acts_30 (by decide) rfl rfl rfl ?_
  refine g_aload_n (np := 33) B.1 dL_acts_32 rfl rfl ?_
  refine g_iload_n (np := 34) B.1 dL_acts_33 rfl rfl ?_
  refine g_bipush (np := 36) (v := 26) B.1 dL_acts_34 (by decide) rfl ?_
  refine gc_YLaw_108 (np := 39) B S hS (oL_in B.1.tr S hS a3 26  _ _ _ h) (Nat.le_of_ble_eq_true rfl) (Nat.le_of_ble_eq_true rfl) (Nat.le_of_ble_eq_true rfl) (Nat.le_of_ble_eq_true rfl) (Nat.le_of_ble_eq_true rfl) dL_acts_36 rfl (fun r7 s8 h => ?_)
  by_cases e9 : r7 = 0
  · replace h := h.1 e9
    refine g_tabIn (off := _) (tgt := 144) B.1 dL_acts_39 (by rw [e9]; decide) (by rw [e9]; decide) (by rw [e9]; rfl) (by decide) ?_
    refine g_aload_n (np := 145) B.1 dL_acts_144 rfl rfl ?_
    refine g_iload (np := 147) B.1 dL_acts_145 rfl rfl ?_
    refine g_bipush (np := 149) (v := 52) B.1 dL_acts_147 (by decide) rfl ?_
    refine g_irem (np := 150) B.1 dL_acts_149 (by decide) rfl ?_
    refine g_bipush (np := 152) (v := 9) B.1 dL_acts_150 (by decide) rfl ?_
    refine g_iload (np := 154) B.1 dL_acts_152 rfl rfl ?_
    refine g_bipush (np := 156) (v := 53) B.1 dL_acts_154 (by decide) rfl ?_
    refine g_irem (np := 157) B.1 dL_acts_156 (by decide) rfl ?_
    refine g_iadd (np := 158) B.1 dL_acts_157 rfl ?_
    refine g_iload (np := 160) B.1 dL_acts_158 rfl rfl ?_
    refine g_iconst (np := 161) (v := 4) B.1 dL_acts_160 (by decide) rfl ?_
    refine g_irem (np := 162) B.1 dL_acts_161 (by decide) rfl ?_
    refine g_if_ne (np := 165) (tgt := 172) B.1 dL_acts_162 (by decide) rfl (fun q => ?_) (fun q => ?_)
    · replace h := h.1 q
      refine g_iconst (np := 173) (v := 1) B.1 dL_acts_172 (by decide) rfl ?_
      refine g_iload_n (np := 174) B.1 dL_acts_173 rfl rfl ?_
      refine g_iconst (np := 175) (v := 4) B.1 dL_acts_174 (by decide) rfl ?_
      refine g_irem (np := 176) B.1 dL_acts_175 (by decide) rfl ?_
      refine g_iadd (np := 177) B.1 dL_acts_176 rfl ?_
      refine gc_YLaw_112 (np := 180) B   (oL_buyBale B.1.tr   (r5 - r5 / 52 * 52) (9 + (r3 - r3 / 53 * 53)) (1 + (r1 - r1 / 4 * 4))  _ _ _ h) (Nat.le_of_ble_eq_true rfl) (Nat.le_of_ble_eq_true rfl) (Nat.le_of_ble_eq_true rfl) (Nat.le_of_ble_eq_true rfl) (Nat.le_of_ble_eq_true rfl) dL_acts_177 rfl (fun r9 s10 h => ?_)
      exact g_iret B (ty := .int) rfl rfl (Nat.le_of_ble_eq_true rfl) (Nat.le_of_ble_eq_true rfl) dL_acts_180 ⟨_, rfl, h⟩
    · replace h := h.2 q
      refine g_iload_n (np := 166) B.1 dL_acts_165 rfl rfl ?_
      refine g_bipush (np := 168) (v := 12) B.1 dL_acts_166 (by decide) rfl ?_
      refine g_iadd (np := 169) B.1 dL_acts_168 rfl ?_
      refine g_goto (tgt := 177) B.1 dL_acts_169 (by decide) ?_
      refine gc_YLaw_112 (np := 180) B   (oL_buyBale B.1.tr   (r5 - r5 / 52 * 52) (9 + (r3 - r3 / 53 * 53)) (r1 + 12)  _ _ _ h) (Nat.le_of_ble_eq_true rfl) (Nat.le_of_ble_eq_true rfl) (Nat.le_of_ble_eq_true rfl) (Nat.le_of_ble_eq_true rfl) (Nat.le_of_ble_eq_true rfl) dL_acts_177 rfl (fun r11 s12 h => ?_)
      exact g_iret B (ty := .int) rfl rfl (Nat.le_of_ble_eq_true rfl) (Nat.le_of_ble_eq_true rfl) dL_acts_180 ⟨_, rfl, h⟩
  have n_0 := e9
  clear e9
  by_cases e9 : r7 = 1
  · replace h := h.2.1 e9
    refine g_tabIn (off := _) (tgt := 144) B.1 dL_acts_39 (by rw [e9]; decide) (by rw [e9]; decide) (by rw [e9]; rfl) (by decide) ?_
    refine g_aload_n (np := 145) B.1 dL_acts_144 rfl rfl ?_
    refine g_iload (np := 147) B.1 dL_acts_145 rfl rfl ?_
    refine g_bipush (np := 149) (v := 52) B.1 dL_acts_147 (by decide) rfl ?_
    refine g_irem (np := 150) B.1 dL_acts_149 (by decide) rfl ?_
    refine g_bipush (np := 152) (v := 9) B.1 dL_acts_150 (by decide) rfl ?_
    refine g_iload (np := 154) B.1 dL_acts_152 rfl rfl ?_
    refine g_bipush (np := 156) (v := 53) B.1 dL_acts_154 (by decide) rfl ?_
    refine g_irem (np := 157) B.1 dL_acts_156 (by decide) rfl ?_
    refine g_iadd (np := 158) B.1 dL_acts_157 rfl ?_
    refine g_iload (np := 160) B.1 dL_acts_158 rfl rfl ?_
    refine g_iconst (np := 161) (v := 4) B.1 dL_acts_160 (by decide) rfl ?_
    refine g_irem (np := 162) B.1 dL_acts_161 (by decide) rfl ?_
    refine g_if_ne (np := 165) (tgt := 172) B.1 dL_acts_162 (by decide) rfl (fun q => ?_) (fun q => ?_)
    · replace h := h.1 q
      refine g_iconst (np := 173) (v := 1) B.1 dL_acts_172 (by decide) rfl ?_
      refine g_iload_n (np := 174) B.1 dL_acts_173 rfl rfl ?_
      refine g_iconst (np := 175) (v := 4) B.1 dL_acts_174 (by decide) rfl ?_
      refine g_irem (np := 176) B.1 dL_acts_175 (by decide) rfl ?_
      refine g_iadd (np := 177) B.1 dL_acts_176 rfl ?_
      refine gc_YLaw_112 (np := 180) B   (oL_buyBale B.1.tr   (r5 - r5 / 52 * 52) (9 + (r3 - r3 / 53 * 53)) (1 + (r1 - r1 / 4 * 4))  _ _ _ h) (Nat.le_of_ble_eq_true rfl) (Nat.le_of_ble_eq_true rfl) (Nat.le_of_ble_eq_true rfl) (Nat.le_of_ble_eq_true rfl) (Nat.le_of_ble_eq_true rfl) dL_acts_177 rfl (fun r13 s14 h => ?_)
      exact g_iret B (ty := .int) rfl rfl (Nat.le_of_ble_eq_true rfl) (Nat.le_of_ble_eq_true rfl) dL_acts_180 ⟨_, rfl, h⟩
    · replace h := h.2 q
      refine g_iload_n (np := 166) B.1 dL_acts_165 rfl rfl ?_
      refine g_bipush (np := 168) (v := 12) B.1 dL_acts_166 (by decide) rfl ?_
      refine g_iadd (np := 169) B.1 dL_acts_168 rfl ?_
      refine g_goto (tgt := 177) B.1 dL_acts_169 (by decide) ?_
      refine gc_YLaw_112 (np := 180) B   (oL_buyBale B.1.tr   (r5 - r5 / 52 * 52) (9 + (r3 - r3 / 53 * 53)) (r1 + 12)  _ _ _ h) (Nat.le_of_ble_eq_true rfl) (Nat.le_of_ble_eq_true rfl) (Nat.le_of_ble_eq_true rfl) (Nat.le_of_ble_eq_true rfl) (Nat.le_of_ble_eq_true rfl) dL_acts_177 rfl (fun r15 s16 h => ?_)
      exact g_iret B (ty := .int) rfl rfl (Nat.le_of_ble_eq_true rfl) (Nat.le_of_ble_eq_true rfl) dL_acts_180 ⟨_, rfl, h⟩
  have n_1 := e9
  clear e9
  by_cases e9 : r7 = 2
  · replace h := h.2.2.1 e9
    refine g_tabIn (off := _) (tgt := 144) B.1 dL_acts_39 (by rw [e9]; decide) (by rw [e9]; decide) (by rw [e9]; rfl) (by decide) ?_
    refine g_aload_n (np := 145) B.1 dL_acts_144 rfl rfl ?_
    refine g_iload (np := 147) B.1 dL_acts_145 rfl rfl ?_
    refine g_bipush (np := 149) (v := 52) B.1 dL_acts_147 (by decide) rfl ?_
    refine g_irem (np := 150) B.1 dL_acts_149 (by decide) rfl ?_
    refine g_bipush (np := 152) (v := 9) B.1 dL_acts_150 (by decide) rfl ?_
    refine g_iload (np := 154) B.1 dL_acts_152 rfl rfl ?_
    refine g_bipush (np := 156) (v := 53) B.1 dL_acts_154 (by decide) rfl ?_
    refine g_irem (np := 157) B.1 dL_acts_156 (by decide) rfl ?_
    refine g_iadd (np := 158) B.1 dL_acts_157 rfl ?_
    refine g_iload (np := 160) B.1 dL_acts_158 rfl rfl ?_
    refine g_iconst (np := 161) (v := 4) B.1 dL_acts_160 (by decide) rfl ?_
    refine g_irem (np := 162) B.1 dL_acts_161 (by decide) rfl ?_
    refine g_if_ne (np := 165) (tgt := 172) B.1 dL_acts_162 (by decide) rfl (fun q => ?_) (fun q => ?_)
    · replace h := h.1 q
      refine g_iconst (np := 173) (v := 1) B.1 dL_acts_172 (by decide) rfl ?_
      refine g_iload_n (np := 174) B.1 dL_acts_173 rfl rfl ?_
      refine g_iconst (np := 175) (v := 4) B.1 dL_acts_174 (by decide) rfl ?_
      refine g_irem (np := 176) B.1 dL_acts_175 (by decide) rfl ?_
      refine g_iadd (np := 177) B.1 dL_acts_176 rfl ?_
      refine gc_YLaw_112 (np := 180) B   (oL_buyBale B.1.tr   (r5 - r5 / 52 * 52) (9 + (r3 - r3 / 53 * 53)) (1 + (r1 - r1 / 4 * 4))  _ _ _ h) (Nat.le_of_ble_eq_true rfl) (Nat.le_of_ble_eq_true rfl) (Nat.le_of_ble_eq_true rfl) (Nat.le_of_ble_eq_true rfl) (Nat.le_of_ble_eq_true rfl) dL_acts_177 rfl (fun r17 s18 h => ?_)
      exact g_iret B (ty := .int) rfl rfl (Nat.le_of_ble_eq_true rfl) (Nat.le_of_ble_eq_true rfl) dL_acts_180 ⟨_, rfl, h⟩
    · replace h := h.2 q
      refine g_iload_n (np := 166) B.1 dL_acts_165 rfl rfl ?_
      refine g_bipush (np := 168) (v := 12) B.1 dL_acts_166 (by decide) rfl ?_
      refine g_iadd (np := 169) B.1 dL_acts_168 rfl ?_
      refine g_goto (tgt := 177) B.1 dL_acts_169 (by decide) ?_
      refine gc_YLaw_112 (np := 180) B   (oL_buyBale B.1.tr   (r5 - r5 / 52 * 52) (9 + (r3 - r3 / 53 * 53)) (r1 + 12)  _ _ _ h) (Nat.le_of_ble_eq_true rfl) (Nat.le_of_ble_eq_true rfl) (Nat.le_of_ble_eq_true rfl) (Nat.le_of_ble_eq_true rfl) (Nat.le_of_ble_eq_true rfl) dL_acts_177 rfl (fun r19 s20 h => ?_)
      exact g_iret B (ty := .int) rfl rfl (Nat.le_of_ble_eq_true rfl) (Nat.le_of_ble_eq_true rfl) dL_acts_180 ⟨_, rfl, h⟩
  have n_2 := e9
  clear e9
  by_cases e9 : r7 = 3
  · replace h := h.2.2.2.1 e9
    refine g_tabIn (off := _) (tgt := 144) B.1 dL_acts_39 (by rw [e9]; decide) (by rw [e9]; decide) (by rw [e9]; rfl) (by decide) ?_
    refine g_aload_n (np := 145) B.1 dL_acts_144 rfl rfl ?_
    refine g_iload (np := 147) B.1 dL_acts_145 rfl rfl ?_
    refine g_bipush (np := 149) (v := 52) B.1 dL_acts_147 (by decide) rfl ?_
    refine g_irem (np := 150) B.1 dL_acts_149 (by decide) rfl ?_
    refine g_bipush (np := 152) (v := 9) B.1 dL_acts_150 (by decide) rfl ?_
    refine g_iload (np := 154) B.1 dL_acts_152 rfl rfl ?_
    refine g_bipush (np := 156) (v := 53) B.1 dL_acts_154 (by decide) rfl ?_
    refine g_irem (np := 157) B.1 dL_acts_156 (by decide) rfl ?_
    refine g_iadd (np := 158) B.1 dL_acts_157 rfl ?_
    refine g_iload (np := 160) B.1 dL_acts_158 rfl rfl ?_
    refine g_iconst (np := 161) (v := 4) B.1 dL_acts_160 (by decide) rfl ?_
    refine g_irem (np := 162) B.1 dL_acts_161 (by decide) rfl ?_
    refine g_if_ne (np := 165) (tgt := 172) B.1 dL_acts_162 (by decide) rfl (fun q => ?_) (fun q => ?_)
    · replace h := h.1 q
      refine g_iconst (np := 173) (v := 1) B.1 dL_acts_172 (by decide) rfl ?_
      refine g_iload_n (np := 174) B.1 dL_acts_173 rfl rfl ?_
      refine g_iconst (np := 175) (v := 4) B.1 dL_acts_174 (by decide) rfl ?_
      refine g_irem (np := 176) B.1 dL_acts_175 (by decide) rfl ?_
      refine g_iadd (np := 177) B.1 dL_acts_176 rfl ?_
      refine gc_YLaw_112 (np := 180) B   (oL_buyBale B.1.tr   (r5 - r5 / 52 * 52) (9 + (r3 - r3 / 53 * 53)) (1 + (r1 - r1 / 4 * 4))  _ _ _ h) (Nat.le_of_ble_eq_true rfl) (Nat.le_of_ble_eq_true rfl) (Nat.le_of_ble_eq_true rfl) (Nat.le_of_ble_eq_true rfl) (Nat.le_of_ble_eq_true rfl) dL_acts_177 rfl (fun r21 s22 h => ?_)
      exact g_iret B (ty := .int) rfl rfl (Nat.le_of_ble_eq_true rfl) (Nat.le_of_ble_eq_true rfl) dL_acts_180 ⟨_, rfl, h⟩
    · replace h := h.2 q
      refine g_iload_n (np := 166) B.1 dL_acts_165 rfl rfl ?_
      refine g_bipush (np := 168) (v := 12) B.1 dL_acts_166 (by decide) rfl ?_
      refine g_iadd (np := 169) B.1 dL_acts_168 rfl ?_
      refine g_goto (tgt := 177) B.1 dL_acts_169 (by decide) ?_
      refine gc_YLaw_112 (np := 180) B   (oL_buyBale B.1.tr   (r5 - r5 / 52 * 52) (9 + (r3 - r3 / 53 * 53)) (r1 + 12)  _ _ _ h) (Nat.le_of_ble_eq_true rfl) (Nat.le_of_ble_eq_true rfl) (Nat.le_of_ble_eq_true rfl) (Nat.le_of_ble_eq_true rfl) (Nat.le_of_ble_eq_true rfl) dL_acts_177 rfl (fun r23 s24 h => ?_)
      exact g_iret B (ty := .int) rfl rfl (Nat.le_of_ble_eq_true rfl) (Nat.le_of_ble_eq_true rfl) dL_acts_180 ⟨_, rfl, h⟩
  have n_3 := e9
  clear e9
  by_cases e9 : r7 = 4
  · replace h := h.2.2.2.2.1 e9
    refine g_tabIn (off := _) (tgt := 181) B.1 dL_acts_39 (by rw [e9]; decide) (by rw [e9]; decide) (by rw [e9]; rfl) (by decide) ?_
    refine g_aload_n (np := 182) B.1 dL_acts_181 rfl rfl ?_
    refine g_iload (np := 184) B.1 dL_acts_182 rfl rfl ?_
    refine g_bipush (np := 186) (v := 7) B.1 dL_acts_184 (by decide) rfl ?_
    refine g_irem (np := 187) B.1 dL_acts_186 (by decide) rfl ?_
    refine g_if_ne (np := 190) (tgt := 198) B.1 dL_acts_187 (by decide) rfl (fun q => ?_) (fun q => ?_)
    · replace h := h.1 q
      refine g_iconst (np := 199) (v := 1) B.1 dL_acts_198 (by decide) rfl ?_
      refine g_iload (np := 201) B.1 dL_acts_199 rfl rfl ?_
      refine g_bipush (np := 203) (v := 60) B.1 dL_acts_201 (by decide) rfl ?_
      refine g_irem (np := 204) B.1 dL_acts_203 (by decide) rfl ?_
      refine g_iadd (np := 205) B.1 dL_acts_204 rfl ?_
      refine g_iload (np := 207) B.1 dL_acts_205 rfl rfl ?_
      refine g_bipush (np := 209) (v := 9) B.1 dL_acts_207 (by decide) rfl ?_
      refine g_irem (np := 210) B.1 dL_acts_209 (by decide) rfl ?_
      refine g_if_ne (np := 213) (tgt := 218) B.1 dL_acts_210 (by decide) rfl (fun q => ?_) (fun q => ?_)
      · replace h := h.1 q
        refine g_bipush (np := 220) (v := 10) B.1 dL_acts_218 (by decide) rfl ?_
        refine g_iload (np := 222) B.1 dL_acts_220 rfl rfl ?_
        refine g_bipush (np := 224) (v := 40) B.1 dL_acts_222 (by decide) rfl ?_
        refine g_irem (np := 225) B.1 dL_acts_224 (by decide) rfl ?_
        refine g_iadd (np := 226) B.1 dL_acts_225 rfl ?_
        refine gc_YLaw_115 (np := 229) B   (oL_blend B.1.tr   (1 + (r5 - r5 / 60 * 60)) (10 + (r3 - r3 / 40 * 40))  _ _ _ h) (Nat.le_of_ble_eq_true rfl) (Nat.le_of_ble_eq_true rfl) (Nat.le_of_ble_eq_true rfl) (Nat.le_of_ble_eq_true rfl) (Nat.le_of_ble_eq_true rfl) dL_acts_226 rfl (fun r25 s26 h => ?_)
        exact g_iret B (ty := .int) rfl rfl (Nat.le_of_ble_eq_true rfl) (Nat.le_of_ble_eq_true rfl) dL_acts_229 ⟨_, rfl, h⟩
      · replace h := h.2 q
        refine g_iload (np := 215) B.1 dL_acts_213 rfl rfl ?_
        refine g_goto (tgt := 226) B.1 dL_acts_215 (by decide) ?_
        refine gc_YLaw_115 (np := 229) B   (oL_blend B.1.tr   (1 + (r5 - r5 / 60 * 60)) r3  _ _ _ h) (Nat.le_of_ble_eq_true rfl) (Nat.le_of_ble_eq_true rfl) (Nat.le_of_ble_eq_true rfl) (Nat.le_of_ble_eq_true rfl) (Nat.le_of_ble_eq_true rfl) dL_acts_226 rfl (fun r27 s28 h => ?_)
        exact g_iret B (ty := .int) rfl rfl (Nat.le_of_ble_eq_true rfl) (Nat.le_of_ble_eq_true rfl) dL_acts_229 ⟨_, rfl, h⟩
    · replace h := h.2 q
      refine g_bipush (np := 192) (v := 6) B.1 dL_acts_190 (by decide) rfl ?_
      refine g_iload (np := 194) B.1 dL_acts_192 rfl rfl ?_
      refine g_imul (np := 195) B.1 dL_acts_194 rfl ?_
      refine g_goto (tgt := 205) B.1 dL_acts_195 (by decide) ?_
      refine g_iload (np := 207) B.1 dL_acts_205 rfl rfl ?_
      refine g_bipush (np := 209) (v := 9) B.1 dL_acts_207 (by decide) rfl ?_
      refine g_irem (np := 210) B.1 dL_acts_209 (by decide) rfl ?_
      refine g_if_ne (np := 213) (tgt := 218) B.1 dL_acts_210 (by decide) rfl (fun q => ?_) (fun q => ?_)
      · replace h := h.1 q
        refine g_bipush (np := 220) (v := 10) B.1 dL_acts_218 (by decide) rfl ?_
        refine g_iload (np := 222) B.1 dL_acts_220 rfl rfl ?_
        refine g_bipush (np := 224) (v := 40) B.1 dL_acts_222 (by decide) rfl ?_
        refine g_irem (np := 225) B.1 dL_acts_224 (by decide) rfl ?_
        refine g_iadd (np := 226) B.1 dL_acts_225 rfl ?_
        refine gc_YLaw_115 (np := 229) B   (oL_blend B.1.tr   (6 * r5) (10 + (r3 - r3 / 40 * 40))  _ _ _ h) (Nat.le_of_ble_eq_true rfl) (Nat.le_of_ble_eq_true rfl) (Nat.le_of_ble_eq_true rfl) (Nat.le_of_ble_eq_true rfl) (Nat.le_of_ble_eq_true rfl) dL_acts_226 rfl (fun r29 s30 h => ?_)
        exact g_iret B (ty := .int) rfl rfl (Nat.le_of_ble_eq_true rfl) (Nat.le_of_ble_eq_true rfl) dL_acts_229 ⟨_, rfl, h⟩
      · replace h := h.2 q
        refine g_iload (np := 215) B.1 dL_acts_213 rfl rfl ?_
        refine g_goto (tgt := 226) B.1 dL_acts_215 (by decide) ?_
        refine gc_YLaw_115 (np := 229) B   (oL_blend B.1.tr   (6 * r5) r3  _ _ _ h) (Nat.le_of_ble_eq_true rfl) (Nat.le_of_ble_eq_true rfl) (Nat.le_of_ble_eq_true rfl) (Nat.le_of_ble_eq_true rfl) (Nat.le_of_ble_eq_true rfl) dL_acts_226 rfl (fun r31 s32 h => ?_)
        exact g_iret B (ty := .int) rfl rfl (Nat.le_of_ble_eq_true rfl) (Nat.le_of_ble_eq_true rfl) dL_acts_229 ⟨_, rfl, h⟩
  have n_4 := e9
  clear e9
  by_cases e9 : r7 = 5
  · replace h := h.2.2.2.2.2.1 e9
    refine g_tabIn (off := _) (tgt := 181) B.1 dL_acts_39 (by rw [e9]; decide) (by rw [e9]; decide) (by rw [e9]; rfl) (by decide) ?_
    refine g_aload_n (np := 182) B.1 dL_acts_181 rfl rfl ?_
    refine g_iload (np := 184) B.1 dL_acts_182 rfl rfl ?_
    refine g_bipush (np := 186) (v := 7) B.1 dL_acts_184 (by decide) rfl ?_
    refine g_irem (np := 187) B.1 dL_acts_186 (by decide) rfl ?_
    refine g_if_ne (np := 190) (tgt := 198) B.1 dL_acts_187 (by decide) rfl (fun q => ?_) (fun q => ?_)
    · replace h := h.1 q
      refine g_iconst (np := 199) (v := 1) B.1 dL_acts_198 (by decide) rfl ?_
      refine g_iload (np := 201) B.1 dL_acts_199 rfl rfl ?_
      refine g_bipush (np := 203) (v := 60) B.1 dL_acts_201 (by decide) rfl ?_
      refine g_irem (np := 204) B.1 dL_acts_203 (by decide) rfl ?_
      refine g_iadd (np := 205) B.1 dL_acts_204 rfl ?_
      refine g_iload (np := 207) B.1 dL_acts_205 rfl rfl ?_
      refine g_bipush (np := 209) (v := 9) B.1 dL_acts_207 (by decide) rfl ?_
      refine g_irem (np := 210) B.1 dL_acts_209 (by decide) rfl ?_
      refine g_if_ne (np := 213) (tgt := 218) B.1 dL_acts_210 (by decide) rfl (fun q => ?_) (fun q => ?_)
      · replace h := h.1 q
        refine g_bipush (np := 220) (v := 10) B.1 dL_acts_218 (by decide) rfl ?_
        refine g_iload (np := 222) B.1 dL_acts_220 rfl rfl ?_
        refine g_bipush (np := 224) (v := 40) B.1 dL_acts_222 (by decide) rfl ?_
        refine g_irem (np := 225) B.1 dL_acts_224 (by decide) rfl ?_
        refine g_iadd (np := 226) B.1 dL_acts_225 rfl ?_
        refine gc_YLaw_115 (np := 229) B   (oL_blend B.1.tr   (1 + (r5 - r5 / 60 * 60)) (10 + (r3 - r3 / 40 * 40))  _ _ _ h) (Nat.le_of_ble_eq_true rfl) (Nat.le_of_ble_eq_true rfl) (Nat.le_of_ble_eq_true rfl) (Nat.le_of_ble_eq_true rfl) (Nat.le_of_ble_eq_true rfl) dL_acts_226 rfl (fun r33 s34 h => ?_)
        exact g_iret B (ty := .int) rfl rfl (Nat.le_of_ble_eq_true rfl) (Nat.le_of_ble_eq_true rfl) dL_acts_229 ⟨_, rfl, h⟩
      · replace h := h.2 q
        refine g_iload (np := 215) B.1 dL_acts_213 rfl rfl ?_
        refine g_goto (tgt := 226) B.1 dL_acts_215 (by decide) ?_
        refine gc_YLaw_115 (np := 229) B   (oL_blend B.1.tr   (1 + (r5 - r5 / 60 * 60)) r3  _ _ _ h) (Nat.le_of_ble_eq_true rfl) (Nat.le_of_ble_eq_true rfl) (Nat.le_of_ble_eq_true rfl) (Nat.le_of_ble_eq_true rfl) (Nat.le_of_ble_eq_true rfl) dL_acts_226 rfl (fun r35 s36 h => ?_)
        exact g_iret B (ty := .int) rfl rfl (Nat.le_of_ble_eq_true rfl) (Nat.le_of_ble_eq_true rfl) dL_acts_229 ⟨_, rfl, h⟩
    · replace h := h.2 q
      refine g_bipush (np := 192) (v := 6) B.1 dL_acts_190 (by decide) rfl ?_
      refine g_iload (np := 194) B.1 dL_acts_192 rfl rfl ?_
      refine g_imul (np := 195) B.1 dL_acts_194 rfl ?_
      refine g_goto (tgt := 205) B.1 dL_acts_195 (by decide) ?_
      refine g_iload (np := 207) B.1 dL_acts_205 rfl rfl ?_
      refine g_bipush (np := 209) (v := 9) B.1 dL_acts_207 (by decide) rfl ?_
      refine g_irem (np := 210) B.1 dL_acts_209 (by decide) rfl ?_
      refine g_if_ne (np := 213) (tgt := 218) B.1 dL_acts_210 (by decide) rfl (fun q => ?_) (fun q => ?_)
      · replace h := h.1 q
        refine g_bipush (np := 220) (v := 10) B.1 dL_acts_218 (by decide) rfl ?_
        refine g_iload (np := 222) B.1 dL_acts_220 rfl rfl ?_
        refine g_bipush (np := 224) (v := 40) B.1 dL_acts_222 (by decide) rfl ?_
        refine g_irem (np := 225) B.1 dL_acts_224 (by decide) rfl ?_
        refine g_iadd (np := 226) B.1 dL_acts_225 rfl ?_
        refine gc_YLaw_115 (np := 229) B   (oL_blend B.1.tr   (6 * r5) (10 + (r3 - r3 / 40 * 40))  _ _ _ h) (Nat.le_of_ble_eq_true rfl) (Nat.le_of_ble_eq_true rfl) (Nat.le_of_ble_eq_true rfl) (Nat.le_of_ble_eq_true rfl) (Nat.le_of_ble_eq_true rfl) dL_acts_226 rfl (fun r37 s38 h => ?_)
        exact g_iret B (ty := .int) rfl rfl (Nat.le_of_ble_eq_true rfl) (Nat.le_of_ble_eq_true rfl) dL_acts_229 ⟨_, rfl, h⟩
      · replace h := h.2 q
        refine g_iload (np := 215) B.1 dL_acts_213 rfl rfl ?_
        refine g_goto (tgt := 226) B.1 dL_acts_215 (by decide) ?_
        refine gc_YLaw_115 (np := 229) B   (oL_blend B.1.tr   (6 * r5) r3  _ _ _ h) (Nat.le_of_ble_eq_true rfl) (Nat.le_of_ble_eq_true rfl) (Nat.le_of_ble_eq_true rfl) (Nat.le_of_ble_eq_true rfl) (Nat.le_of_ble_eq_true rfl) dL_acts_226 rfl (fun r39 s40 h => ?_)
        exact g_iret B (ty := .int) rfl rfl (Nat.le_of_ble_eq_true rfl) (Nat.le_of_ble_eq_true rfl) dL_acts_229 ⟨_, rfl, h⟩
  have n_5 := e9
  clear e9
  by_cases e9 : r7 = 6
  · replace h := h.2.2.2.2.2.2.1 e9
    refine g_tabIn (off := _) (tgt := 181) B.1 dL_acts_39 (by rw [e9]; decide) (by rw [e9]; decide) (by rw [e9]; rfl) (by decide) ?_
    refine g_aload_n (np := 182) B.1 dL_acts_181 rfl rfl ?_
    refine g_iload (np := 184) B.1 dL_acts_182 rfl rfl ?_
    refine g_bipush (np := 186) (v := 7) B.1 dL_acts_184 (by decide) rfl ?_
    refine g_irem (np := 187) B.1 dL_acts_186 (by decide) rfl ?_
    refine g_if_ne (np := 190) (tgt := 198) B.1 dL_acts_187 (by decide) rfl (fun q => ?_) (fun q => ?_)
    · replace h := h.1 q
      refine g_iconst (np := 199) (v := 1) B.1 dL_acts_198 (by decide) rfl ?_
      refine g_iload (np := 201) B.1 dL_acts_199 rfl rfl ?_
      refine g_bipush (np := 203) (v := 60) B.1 dL_acts_201 (by decide) rfl ?_
      refine g_irem (np := 204) B.1 dL_acts_203 (by decide) rfl ?_
      refine g_iadd (np := 205) B.1 dL_acts_204 rfl ?_
      refine g_iload (np := 207) B.1 dL_acts_205 rfl rfl ?_
      refine g_bipush (np := 209) (v := 9) B.1 dL_acts_207 (by decide) rfl ?_
      refine g_irem (np := 210) B.1 dL_acts_209 (by decide) rfl ?_
      refine g_if_ne (np := 213) (tgt := 218) B.1 dL_acts_210 (by decide) rfl (fun q => ?_) (fun q => ?_)
      · replace h := h.1 q
        refine g_bipush (np := 220) (v := 10) B.1 dL_acts_218 (by decide) rfl ?_
        refine g_iload (np := 222) B.1 dL_acts_220 rfl rfl ?_
        refine g_bipush (np := 224) (v := 40) B.1 dL_acts_222 (by decide) rfl ?_
        refine g_irem (np := 225) B.1 dL_acts_224 (by decide) rfl ?_
        refine g_iadd (np := 226) B.1 dL_acts_225 rfl ?_
        refine gc_YLaw_115 (np := 229) B   (oL_blend B.1.tr   (1 + (r5 - r5 / 60 * 60)) (10 + (r3 - r3 / 40 * 40))  _ _ _ h) (Nat.le_of_ble_eq_true rfl) (Nat.le_of_ble_eq_true rfl) (Nat.le_of_ble_eq_true rfl) (Nat.le_of_ble_eq_true rfl) (Nat.le_of_ble_eq_true rfl) dL_acts_226 rfl (fun r41 s42 h => ?_)
        exact g_iret B (ty := .int) rfl rfl (Nat.le_of_ble_eq_true rfl) (Nat.le_of_ble_eq_true rfl) dL_acts_229 ⟨_, rfl, h⟩
      · replace h := h.2 q
        refine g_iload (np := 215) B.1 dL_acts_213 rfl rfl ?_
        refine g_goto (tgt := 226) B.1 dL_acts_215 (by decide) ?_
        refine gc_YLaw_115 (np := 229) B   (oL_blend B.1.tr   (1 + (r5 - r5 / 60 * 60)) r3  _ _ _ h) (Nat.le_of_ble_eq_true rfl) (Nat.le_of_ble_eq_true rfl) (Nat.le_of_ble_eq_true rfl) (Nat.le_of_ble_eq_true rfl) (Nat.le_of_ble_eq_true rfl) dL_acts_226 rfl (fun r43 s44 h => ?_)
        exact g_iret B (ty := .int) rfl rfl (Nat.le_of_ble_eq_true rfl) (Nat.le_of_ble_eq_true rfl) dL_acts_229 ⟨_, rfl, h⟩
    · replace h := h.2 q
      refine g_bipush (np := 192) (v := 6) B.1 dL_acts_190 (by decide) rfl ?_
      refine g_iload (np := 194) B.1 dL_acts_192 rfl rfl ?_
      refine g_imul (np := 195) B.1 dL_acts_194 rfl ?_
      refine g_goto (tgt := 205) B.1 dL_acts_195 (by decide) ?_
      refine g_iload (np := 207) B.1 dL_acts_205 rfl rfl ?_
      refine g_bipush (np := 209) (v := 9) B.1 dL_acts_207 (by decide) rfl ?_
      refine g_irem (np := 210) B.1 dL_acts_209 (by decide) rfl ?_
      refine g_if_ne (np := 213) (tgt := 218) B.1 dL_acts_210 (by decide) rfl (fun q => ?_) (fun q => ?_)
      · replace h := h.1 q
        refine g_bipush (np := 220) (v := 10) B.1 dL_acts_218 (by decide) rfl ?_
        refine g_iload (np := 222) B.1 dL_acts_220 rfl rfl ?_
        refine g_bipush (np := 224) (v := 40) B.1 dL_acts_222 (by decide) rfl ?_
        refine g_irem (np := 225) B.1 dL_acts_224 (by decide) rfl ?_
        refine g_iadd (np := 226) B.1 dL_acts_225 rfl ?_
        refine gc_YLaw_115 (np := 229) B   (oL_blend B.1.tr   (6 * r5) (10 + (r3 - r3 / 40 * 40))  _ _ _ h) (Nat.le_of_ble_eq_true rfl) (Nat.le_of_ble_eq_true rfl) (Nat.le_of_ble_eq_true rfl) (Nat.le_of_ble_eq_true rfl) (Nat.le_of_ble_eq_true rfl) dL_acts_226 rfl (fun r45 s46 h => ?_)
        exact g_iret B (ty := .int) rfl rfl (Nat.le_of_ble_eq_true rfl) (Nat.le_of_ble_eq_true rfl) dL_acts_229 ⟨_, rfl, h⟩
      · replace h := h.2 q
        refine g_iload (np := 215) B.1 dL_acts_213 rfl rfl ?_
        refine g_goto (tgt := 226) B.1 dL_acts_215 (by decide) ?_
        refine gc_YLaw_115 (np := 229) B   (oL_blend B.1.tr   (6 * r5) r3  _ _ _ h) (Nat.le_of_ble_eq_true rfl) (Nat.le_of_ble_eq_true rfl) (Nat.le_of_ble_eq_true rfl) (Nat.le_of_ble_eq_true rfl) (Nat.le_of_ble_eq_true rfl) dL_acts_226 rfl (fun r47 s48 h => ?_)
        exact g_iret B (ty := .int) rfl rfl (Nat.le_of_ble_eq_true rfl) (Nat.le_of_ble_eq_true rfl) dL_acts_229 ⟨_, rfl, h⟩
  have n_6 := e9
  clear e9
  by_cases e9 : r7 = 7
  · replace h := h.2.2.2.2.2.2.2.1 e9
    refine g_tabIn (off := _) (tgt := 230) B.1 dL_acts_39 (by rw [e9]; decide) (by rw [e9]; decide) (by rw [e9]; rfl) (by decide) ?_
    refine g_aload_n (np := 231) B.1 dL_acts_230 rfl rfl ?_
    refine g_iload (np := 233) B.1 dL_acts_231 rfl rfl ?_
    refine g_bipush (np := 235) (v := 42) B.1 dL_acts_233 (by decide) rfl ?_
    refine g_irem (np := 236) B.1 dL_acts_235 (by decide) rfl ?_
    refine g_iload_n (np := 237) B.1 dL_acts_236 rfl rfl ?_
    refine gc_YLaw_118 (np := 240) B   (oL_addOrder B.1.tr   (r3 - r3 / 42 * 42) r1  _ _ _ h) (Nat.le_of_ble_eq_true rfl) (Nat.le_of_ble_eq_true rfl) (Nat.le_of_ble_eq_true rfl) (Nat.le_of_ble_eq_true rfl) (Nat.le_of_ble_eq_true rfl) dL_acts_237 rfl (fun r49 s50 h => ?_)
    exact g_iret B (ty := .int) rfl rfl (Nat.le_of_ble_eq_true rfl) (Nat.le_of_ble_eq_true rfl) dL_acts_240 ⟨_, rfl, h⟩
  have n_7 := e9
  clear e9
  by_cases e9 : r7 = 8
  · replace h := h.2.2.2.2.2.2.2.2.1 e9
    refine g_tabIn (off := _) (tgt := 230) B.1 dL_acts_39 (by rw [e9]; decide) (by rw [e9]; decide) (by rw [e9]; rfl) (by decide) ?_
    refine g_aload_n (np := 231) B.1 dL_acts_230 rfl rfl ?_
    refine g_iload (np := 233) B.1 dL_acts_231 rfl rfl ?_
    refine g_bipush (np := 235) (v := 42) B.1 dL_acts_233 (by decide) rfl ?_
    refine g_irem (np := 236) B.1 dL_acts_235 (by decide) rfl ?_
    refine g_iload_n (np := 237) B.1 dL_acts_236 rfl rfl ?_
    refine gc_YLaw_118 (np := 240) B   (oL_addOrder B.1.tr   (r3 - r3 / 42 * 42) r1  _ _ _ h) (Nat.le_of_ble_eq_true rfl) (Nat.le_of_ble_eq_true rfl) (Nat.le_of_ble_eq_true rfl) (Nat.le_of_ble_eq_true rfl) (Nat.le_of_ble_eq_true rfl) dL_acts_237 rfl (fun r51 s52 h => ?_)
    exact g_iret B (ty := .int) rfl rfl (Nat.le_of_ble_eq_true rfl) (Nat.le_of_ble_eq_true rfl) dL_acts_240 ⟨_, rfl, h⟩
  have n_8 := e9
  clear e9
  by_cases e9 : r7 = 9
  · replace h := h.2.2.2.2.2.2.2.2.2.1 e9
    refine g_tabIn (off := _) (tgt := 230) B.1 dL_acts_39 (by rw [e9]; decide) (by rw [e9]; decide) (by rw [e9]; rfl) (by decide) ?_
    refine g_aload_n (np := 231) B.1 dL_acts_230 rfl rfl ?_
    refine g_iload (np := 233) B.1 dL_acts_231 rfl rfl ?_
    refine g_bipush (np := 235) (v := 42) B.1 dL_acts_233 (by decide) rfl ?_
    refine g_irem (np := 236) B.1 dL_acts_235 (by decide) rfl ?_
    refine g_iload_n (np := 237) B.1 dL_acts_236 rfl rfl ?_
    refine gc_YLaw_118 (np := 240) B   (oL_addOrder B.1.tr   (r3 - r3 / 42 * 42) r1  _ _ _ h) (Nat.le_of_ble_eq_true rfl) (Nat.le_of_ble_eq_true rfl) (Nat.le_of_ble_eq_true rfl) (Nat.le_of_ble_eq_true rfl) (Nat.le_of_ble_eq_true rfl) dL_acts_237 rfl (fun r53 s54 h => ?_)
    exact g_iret B (ty := .int) rfl rfl (Nat.le_of_ble_eq_true rfl) (Nat.le_of_ble_eq_true rfl) dL_acts_240 ⟨_, rfl, h⟩
  have n_9 := e9
  clear e9
  by_cases e9 : r7 = 10
  · replace h := h.2.2.2.2.2.2.2.2.2.2.1 e9
    refine g_tabIn (off := _) (tgt := 241) B.1 dL_acts_39 (by rw [e9]; decide) (by rw [e9]; decide) (by rw [e9]; rfl) (by decide) ?_
    refine g_aload_n (np := 242) B.1 dL_acts_241 rfl rfl ?_
    refine g_aload_n (np := 243) B.1 dL_acts_242 rfl rfl ?_
    refine g_iload_n (np := 244) B.1 dL_acts_243 rfl rfl ?_
    refine gc_YLaw_138 (np := 247) B   (oL_order B.1.tr   r1  _ _ _ h) (Nat.le_of_ble_eq_true rfl) (Nat.le_of_ble_eq_true rfl) (Nat.le_of_ble_eq_true rfl) (Nat.le_of_ble_eq_true rfl) (Nat.le_of_ble_eq_true rfl) dL_acts_244 rfl (fun r55 s56 h => ?_)
    refine gc_YLaw_141 (np := 250) B   (oL_cancelOrder B.1.tr   r55  _ _ _ h) (Nat.le_of_ble_eq_true rfl) (Nat.le_of_ble_eq_true rfl) (Nat.le_of_ble_eq_true rfl) (Nat.le_of_ble_eq_true rfl) (Nat.le_of_ble_eq_true rfl) dL_acts_247 rfl (fun r57 s58 h => ?_)
    exact g_iret B (ty := .int) rfl rfl (Nat.le_of_ble_eq_true rfl) (Nat.le_of_ble_eq_true rfl) dL_acts_250 ⟨_, rfl, h⟩
  have n_10 := e9
  clear e9
  by_cases e9 : r7 = 11
  · replace h := h.2.2.2.2.2.2.2.2.2.2.2.1 e9
    refine g_tabIn (off := _) (tgt := 251) B.1 dL_acts_39 (by rw [e9]; decide) (by rw [e9]; decide) (by rw [e9]; rfl) (by decide) ?_
    refine g_aload_n (np := 252) B.1 dL_acts_251 rfl rfl ?_
    refine g_iload_n (np := 253) B.1 dL_acts_252 rfl rfl ?_
    refine g_iconst (np := 254) (v := 5) B.1 dL_acts_253 (by decide) rfl ?_
    refine g_irem (np := 255) B.1 dL_acts_254 (by decide) rfl ?_
    refine gc_YLaw_123 (np := 258) B   (oL_setMachines B.1.tr   (r1 - r1 / 5 * 5)  _ _ _ h) (Nat.le_of_ble_eq_true rfl) (Nat.le_of_ble_eq_true rfl) (Nat.le_of_ble_eq_true rfl) (Nat.le_of_ble_eq_true rfl) (Nat.le_of_ble_eq_true rfl) dL_acts_255 rfl (fun r59 s60 h => ?_)
    exact g_iret B (ty := .int) rfl rfl (Nat.le_of_ble_eq_true rfl) (Nat.le_of_ble_eq_true rfl) dL_acts_258 ⟨_, rfl, h⟩
  have n_11 := e9
  clear e9
  by_cases e9 : r7 = 12
  · replace h := h.2.2.2.2.2.2.2.2.2.2.2.2.1 e9
    refine g_tabIn (off := _) (tgt := 259) B.1 dL_acts_39 (by rw [e9]; decide) (by rw [e9]; decide) (by rw [e9]; rfl) (by decide) ?_
    refine g_aload_n (np := 260) B.1 dL_acts_259 rfl rfl ?_
    refine g_aload_n (np := 261) B.1 dL_acts_260 rfl rfl ?_
    refine g_iload_n (np := 262) B.1 dL_acts_261 rfl rfl ?_
    refine gc_YLaw_138 (np := 265) B   (oL_order B.1.tr   r1  _ _ _ h) (Nat.le_of_ble_eq_true rfl) (Nat.le_of_ble_eq_true rfl) (Nat.le_of_ble_eq_true rfl) (Nat.le_of_ble_eq_true rfl) (Nat.le_of_ble_eq_true rfl) dL_acts_262 rfl (fun r61 s62 h => ?_)
    refine gc_YLaw_120 (np := 268) B   (oL_spin B.1.tr   r61  _ _ _ h) (Nat.le_of_ble_eq_true rfl) (Nat.le_of_ble_eq_true rfl) (Nat.le_of_ble_eq_true rfl) (Nat.le_of_ble_eq_true rfl) (Nat.le_of_ble_eq_true rfl) dL_acts_265 rfl (fun r63 s64 h => ?_)
    exact g_iret B (ty := .int) rfl rfl (Nat.le_of_ble_eq_true rfl) (Nat.le_of_ble_eq_true rfl) dL_acts_268 ⟨_, rfl, h⟩
  have n_12 := e9
  clear e9
  by_cases e9 : r7 = 13
  · replace h := h.2.2.2.2.2.2.2.2.2.2.2.2.2.1 e9
    refine g_tabIn (off := _) (tgt := 259) B.1 dL_acts_39 (by rw [e9]; decide) (by rw [e9]; decide) (by rw [e9]; rfl) (by decide) ?_
    refine g_aload_n (np := 260) B.1 dL_acts_259 rfl rfl ?_
    refine g_aload_n (np := 261) B.1 dL_acts_260 rfl rfl ?_
    refine g_iload_n (np := 262) B.1 dL_acts_261 rfl rfl ?_
    refine gc_YLaw_138 (np := 265) B   (oL_order B.1.tr   r1  _ _ _ h) (Nat.le_of_ble_eq_true rfl) (Nat.le_of_ble_eq_true rfl) (Nat.le_of_ble_eq_true rfl) (Nat.le_of_ble_eq_true rfl) (Nat.le_of_ble_eq_true rfl) dL_acts_262 rfl (fun r65 s66 h => ?_)
    refine gc_YLaw_120 (np := 268) B   (oL_spin B.1.tr   r65  _ _ _ h) (Nat.le_of_ble_eq_true rfl) (Nat.le_of_ble_eq_true rfl) (Nat.le_of_ble_eq_true rfl) (Nat.le_of_ble_eq_true rfl) (Nat.le_of_ble_eq_true rfl) dL_acts_265 rfl (fun r67 s68 h => ?_)
    exact g_iret B (ty := .int) rfl rfl (Nat.le_of_ble_eq_true rfl) (Nat.le_of_ble_eq_true rfl) dL_acts_268 ⟨_, rfl, h⟩
  have n_13 := e9
  clear e9
  by_cases e9 : r7 = 14
  · replace h := h.2.2.2.2.2.2.2.2.2.2.2.2.2.2.1 e9
    refine g_tabIn (off := _) (tgt := 259) B.1 dL_acts_39 (by rw [e9]; decide) (by rw [e9]; decide) (by rw [e9]; rfl) (by decide) ?_
    refine g_aload_n (np := 260) B.1 dL_acts_259 rfl rfl ?_
    refine g_aload_n (np := 261) B.1 dL_acts_260 rfl rfl ?_
    refine g_iload_n (np := 262) B.1 dL_acts_261 rfl rfl ?_
    refine gc_YLaw_138 (np := 265) B   (oL_order B.1.tr   r1  _ _ _ h) (Nat.le_of_ble_eq_true rfl) (Nat.le_of_ble_eq_true rfl) (Nat.le_of_ble_eq_true rfl) (Nat.le_of_ble_eq_true rfl) (Nat.le_of_ble_eq_true rfl) dL_acts_262 rfl (fun r69 s70 h => ?_)
    refine gc_YLaw_120 (np := 268) B   (oL_spin B.1.tr   r69  _ _ _ h) (Nat.le_of_ble_eq_true rfl) (Nat.le_of_ble_eq_true rfl) (Nat.le_of_ble_eq_true rfl) (Nat.le_of_ble_eq_true rfl) (Nat.le_of_ble_eq_true rfl) dL_acts_265 rfl (fun r71 s72 h => ?_)
    exact g_iret B (ty := .int) rfl rfl (Nat.le_of_ble_eq_true rfl) (Nat.le_of_ble_eq_true rfl) dL_acts_268 ⟨_, rfl, h⟩
  have n_14 := e9
  clear e9
  by_cases e9 : r7 = 15
  · replace h := h.2.2.2.2.2.2.2.2.2.2.2.2.2.2.2.1 e9
    refine g_tabIn (off := _) (tgt := 259) B.1 dL_acts_39 (by rw [e9]; decide) (by rw [e9]; decide) (by rw [e9]; rfl) (by decide) ?_
    refine g_aload_n (np := 260) B.1 dL_acts_259 rfl rfl ?_
    refine g_aload_n (np := 261) B.1 dL_acts_260 rfl rfl ?_
    refine g_iload_n (np := 262) B.1 dL_acts_261 rfl rfl ?_
    refine gc_YLaw_138 (np := 265) B   (oL_order B.1.tr   r1  _ _ _ h) (Nat.le_of_ble_eq_true rfl) (Nat.le_of_ble_eq_true rfl) (Nat.le_of_ble_eq_true rfl) (Nat.le_of_ble_eq_true rfl) (Nat.le_of_ble_eq_true rfl) dL_acts_262 rfl (fun r73 s74 h => ?_)
    refine gc_YLaw_120 (np := 268) B   (oL_spin B.1.tr   r73  _ _ _ h) (Nat.le_of_ble_eq_true rfl) (Nat.le_of_ble_eq_true rfl) (Nat.le_of_ble_eq_true rfl) (Nat.le_of_ble_eq_true rfl) (Nat.le_of_ble_eq_true rfl) dL_acts_265 rfl (fun r75 s76 h => ?_)
    exact g_iret B (ty := .int) rfl rfl (Nat.le_of_ble_eq_true rfl) (Nat.le_of_ble_eq_true rfl) dL_acts_268 ⟨_, rfl, h⟩
  have n_15 := e9
  clear e9
  by_cases e9 : r7 = 16
  · replace h := h.2.2.2.2.2.2.2.2.2.2.2.2.2.2.2.2.1 e9
    refine g_tabIn (off := _) (tgt := 269) B.1 dL_acts_39 (by rw [e9]; decide) (by rw [e9]; decide) (by rw [e9]; rfl) (by decide) ?_
    refine g_aload_n (np := 270) B.1 dL_acts_269 rfl rfl ?_
    refine g_iload_n (np := 271) B.1 dL_acts_270 rfl rfl ?_
    refine g_iconst (np := 272) (v := 1) B.1 dL_acts_271 (by decide) rfl ?_
    refine g_isub (np := 273) B.1 dL_acts_272 rfl ?_
    refine gc_YLaw_143 (np := 276) B   (oL_splice B.1.tr   (r1 - 1)  _ _ _ h) (Nat.le_of_ble_eq_true rfl) (Nat.le_of_ble_eq_true rfl) (Nat.le_of_ble_eq_true rfl) (Nat.le_of_ble_eq_true rfl) (Nat.le_of_ble_eq_true rfl) dL_acts_273 rfl (fun r77 s78 h => ?_)
    exact g_iret B (ty := .int) rfl rfl (Nat.le_of_ble_eq_true rfl) (Nat.le_of_ble_eq_true rfl) dL_acts_276 ⟨_, rfl, h⟩
  have n_16 := e9
  clear e9
  by_cases e9 : r7 = 17
  · replace h := h.2.2.2.2.2.2.2.2.2.2.2.2.2.2.2.2.2.1 e9
    refine g_tabIn (off := _) (tgt := 269) B.1 dL_acts_39 (by rw [e9]; decide) (by rw [e9]; decide) (by rw [e9]; rfl) (by decide) ?_
    refine g_aload_n (np := 270) B.1 dL_acts_269 rfl rfl ?_
    refine g_iload_n (np := 271) B.1 dL_acts_270 rfl rfl ?_
    refine g_iconst (np := 272) (v := 1) B.1 dL_acts_271 (by decide) rfl ?_
    refine g_isub (np := 273) B.1 dL_acts_272 rfl ?_
    refine gc_YLaw_143 (np := 276) B   (oL_splice B.1.tr   (r1 - 1)  _ _ _ h) (Nat.le_of_ble_eq_true rfl) (Nat.le_of_ble_eq_true rfl) (Nat.le_of_ble_eq_true rfl) (Nat.le_of_ble_eq_true rfl) (Nat.le_of_ble_eq_true rfl) dL_acts_273 rfl (fun r79 s80 h => ?_)
    exact g_iret B (ty := .int) rfl rfl (Nat.le_of_ble_eq_true rfl) (Nat.le_of_ble_eq_true rfl) dL_acts_276 ⟨_, rfl, h⟩
  have n_17 := e9
  clear e9
  by_cases e9 : r7 = 18
  · replace h := h.2.2.2.2.2.2.2.2.2.2.2.2.2.2.2.2.2.2.1 e9
    refine g_tabIn (off := _) (tgt := 269) B.1 dL_acts_39 (by rw [e9]; decide) (by rw [e9]; decide) (by rw [e9]; rfl) (by decide) ?_
    refine g_aload_n (np := 270) B.1 dL_acts_269 rfl rfl ?_
    refine g_iload_n (np := 271) B.1 dL_acts_270 rfl rfl ?_
    refine g_iconst (np := 272) (v := 1) B.1 dL_acts_271 (by decide) rfl ?_
    refine g_isub (np := 273) B.1 dL_acts_272 rfl ?_
    refine gc_YLaw_143 (np := 276) B   (oL_splice B.1.tr   (r1 - 1)  _ _ _ h) (Nat.le_of_ble_eq_true rfl) (Nat.le_of_ble_eq_true rfl) (Nat.le_of_ble_eq_true rfl) (Nat.le_of_ble_eq_true rfl) (Nat.le_of_ble_eq_true rfl) dL_acts_273 rfl (fun r81 s82 h => ?_)
    exact g_iret B (ty := .int) rfl rfl (Nat.le_of_ble_eq_true rfl) (Nat.le_of_ble_eq_true rfl) dL_acts_276 ⟨_, rfl, h⟩
  have n_18 := e9
  clear e9
  by_cases e9 : r7 = 19
  · replace h := h.2.2.2.2.2.2.2.2.2.2.2.2.2.2.2.2.2.2.2.1 e9
    refine g_tabIn (off := _) (tgt := 277) B.1 dL_acts_39 (by rw [e9]; decide) (by rw [e9]; decide) (by rw [e9]; rfl) (by decide) ?_
    refine g_aload_n (np := 278) B.1 dL_acts_277 rfl rfl ?_
    refine gc_YLaw_145 (np := 281) B   (oL_spliceAll B.1.tr     _ _ _ h) (Nat.le_of_ble_eq_true rfl) (Nat.le_of_ble_eq_true rfl) (Nat.le_of_ble_eq_true rfl) (Nat.le_of_ble_eq_true rfl) (Nat.le_of_ble_eq_true rfl) dL_acts_278 rfl (fun r83 s84 h => ?_)
    exact g_iret B (ty := .int) rfl rfl (Nat.le_of_ble_eq_true rfl) (Nat.le_of_ble_eq_true rfl) dL_acts_281 ⟨_, rfl, h⟩
  have n_19 := e9
  clear e9
  by_cases e9 : r7 = 20
  · replace h := h.2.2.2.2.2.2.2.2.2.2.2.2.2.2.2.2.2.2.2.2.1 e9
    refine g_tabIn (off := _) (tgt := 282) B.1 dL_acts_39 (by rw [e9]; decide) (by rw [e9]; decide) (by rw [e9]; rfl) (by decide) ?_
    refine g_aload_n (np := 283) B.1 dL_acts_282 rfl rfl ?_
    refine g_iload_n (np := 284) B.1 dL_acts_283 rfl rfl ?_
    refine gc_YLaw_147 (np := 287) B   (oL_sell B.1.tr   r1  _ _ _ h) (Nat.le_of_ble_eq_true rfl) (Nat.le_of_ble_eq_true rfl) (Nat.le_of_ble_eq_true rfl) (Nat.le_of_ble_eq_true rfl) (Nat.le_of_ble_eq_true rfl) dL_acts_284 rfl (fun r85 s86 h => ?_)
    exact g_iret B (ty := .int) rfl rfl (Nat.le_of_ble_eq_true rfl) (Nat.le_of_ble_eq_true rfl) dL_acts_287 ⟨_, rfl, h⟩
  have n_20 := e9
  clear e9
  by_cases e9 : r7 = 21
  · replace h := h.2.2.2.2.2.2.2.2.2.2.2.2.2.2.2.2.2.2.2.2.2.1 e9
    refine g_tabIn (off := _) (tgt := 282) B.1 dL_acts_39 (by rw [e9]; decide) (by rw [e9]; decide) (by rw [e9]; rfl) (by decide) ?_
    refine g_aload_n (np := 283) B.1 dL_acts_282 rfl rfl ?_
    refine g_iload_n (np := 284) B.1 dL_acts_283 rfl rfl ?_
    refine gc_YLaw_147 (np := 287) B   (oL_sell B.1.tr   r1  _ _ _ h) (Nat.le_of_ble_eq_true rfl) (Nat.le_of_ble_eq_true rfl) (Nat.le_of_ble_eq_true rfl) (Nat.le_of_ble_eq_true rfl) (Nat.le_of_ble_eq_true rfl) dL_acts_284 rfl (fun r87 s88 h => ?_)
    exact g_iret B (ty := .int) rfl rfl (Nat.le_of_ble_eq_true rfl) (Nat.le_of_ble_eq_true rfl) dL_acts_287 ⟨_, rfl, h⟩
  have n_21 := e9
  clear e9
  by_cases e9 : r7 = 22
  · replace h := h.2.2.2.2.2.2.2.2.2.2.2.2.2.2.2.2.2.2.2.2.2.2.1 e9
    refine g_tabIn (off := _) (tgt := 282) B.1 dL_acts_39 (by rw [e9]; decide) (by rw [e9]; decide) (by rw [e9]; rfl) (by decide) ?_
    refine g_aload_n (np := 283) B.1 dL_acts_282 rfl rfl ?_
    refine g_iload_n (np := 284) B.1 dL_acts_283 rfl rfl ?_
    refine gc_YLaw_147 (np := 287) B   (oL_sell B.1.tr   r1  _ _ _ h) (Nat.le_of_ble_eq_true rfl) (Nat.le_of_ble_eq_true rfl) (Nat.le_of_ble_eq_true rfl) (Nat.le_of_ble_eq_true rfl) (Nat.le_of_ble_eq_true rfl) dL_acts_284 rfl (fun r89 s90 h => ?_)
    exact g_iret B (ty := .int) rfl rfl (Nat.le_of_ble_eq_true rfl) (Nat.le_of_ble_eq_true rfl) dL_acts_287 ⟨_, rfl, h⟩
  have n_22 := e9
  clear e9
  replace h := h.2.2.2.2.2.2.2.2.2.2.2.2.2.2.2.2.2.2.2.2.2.2.2 ⟨n_0, n_1, n_2, n_3, n_4, n_5, n_6, n_7, n_8, n_9, n_10, n_11, n_12, n_13, n_14, n_15, n_16, n_17, n_18, n_19, n_20, n_21, n_22⟩
  have key : Go K 0 0 s8 288 [some (.ref (xad (fX K) 14 0)), some (.ref (xen (fX K) 5 0)), some (.int a3), some (.int r1), some (.int r3), some (.int r5)] ([]) := by
    refine g_aload_n (np := 289) B.1 dL_acts_288 rfl rfl ?_
    refine g_iload (np := 291) B.1 dL_acts_289 rfl rfl ?_
    refine g_iconst (np := 292) (v := 4) B.1 dL_acts_291 (by decide) rfl ?_
    refine g_irem (np := 293) B.1 dL_acts_292 (by decide) rfl ?_
    refine g_if_ne (np := 296) (tgt := 340) B.1 dL_acts_293 (by decide) rfl (fun q => ?_) (fun q => ?_)
    · replace h := h.1 q
      refine g_iload (np := 342) B.1 dL_acts_340 rfl rfl ?_
      refine g_iconst (np := 343) (v := 4) B.1 dL_acts_342 (by decide) rfl ?_
      refine g_irem (np := 344) B.1 dL_acts_343 (by decide) rfl ?_
      refine g_iconst (np := 345) (v := 1) B.1 dL_acts_344 (by decide) rfl ?_
      refine g_icmp_ne (np := 348) (tgt := 385) B.1 dL_acts_345 (by decide) rfl (fun q => ?_) (fun q => ?_)
      · replace h := h.1 q
        refine g_iload (np := 387) B.1 dL_acts_385 rfl rfl ?_
        refine g_iconst (np := 388) (v := 4) B.1 dL_acts_387 (by decide) rfl ?_
        refine g_irem (np := 389) B.1 dL_acts_388 (by decide) rfl ?_
        refine g_iconst (np := 390) (v := 2) B.1 dL_acts_389 (by decide) rfl ?_
        refine g_icmp_ne (np := 393) (tgt := 420) B.1 dL_acts_390 (by decide) rfl (fun q => ?_) (fun q => ?_)
        · replace h := h.1 q
          refine g_newSB2 (np := 427) B hT.1 (fun X => [some (.ref (xad X 14 0)), some (.ref (xen X 5 0)), some (.int a3), some (.int r1), some (.int r3), some (.int r5)]) (fun X => .ref (xad X 14 0) :: []) (fun _ _ => rfl) (fun _ _ => rfl) (Nat.le_of_ble_eq_true rfl) dL_acts_420 dL_acts_423 dL_acts_424 (Nat.le_of_ble_eq_true rfl) (Nat.le_of_ble_eq_true rfl) (Nat.le_of_ble_eq_true rfl) (Nat.le_of_ble_eq_true rfl) rfl (fun K B hT9 hb2 s91 es91 => ?_)
          replace hT := And.intro (hT9.1.trans hT.2.1) (hT9.2.trans hT.2.2)
          replace h := h s91 es91
          refine g_ldcS (np := 429) B.1 (j := 16) (by decide) rfl rfl dL_acts_427 rfl ?_
          refine gc_YLaw_154 (np := 432) B 2 hb2 (oJ4_append_15ec4 B.1.tr 2 hb2 16 (by decide) _ _ _ h) (Nat.le_of_ble_eq_true rfl) (Nat.le_of_ble_eq_true rfl) (Nat.le_of_ble_eq_true rfl) (Nat.le_of_ble_eq_true rfl) (Nat.le_of_ble_eq_true rfl) dL_acts_429 rfl (fun s93 h => ?_)
          refine g_iload_n (np := 433) B.1 dL_acts_432 rfl rfl ?_
          refine g_iconst (np := 434) (v := 4) B.1 dL_acts_433 (by decide) rfl ?_
          refine g_irem (np := 435) B.1 dL_acts_434 (by decide) rfl ?_
          refine gc_YLaw_158 (np := 438) B 2 hb2 (oJ4_append_bf812 B.1.tr 2 hb2 (r1 - r1 / 4 * 4)  _ _ _ h) (Nat.le_of_ble_eq_true rfl) (Nat.le_of_ble_eq_true rfl) (Nat.le_of_ble_eq_true rfl) (Nat.le_of_ble_eq_true rfl) (Nat.le_of_ble_eq_true rfl) dL_acts_435 rfl (fun s95 h => ?_)
          refine g_ldcS (np := 440) B.1 (j := 17) (by decide) rfl rfl dL_acts_438 rfl ?_
          refine gc_YLaw_154 (np := 443) B 2 hb2 (oJ4_append_15ec4 B.1.tr 2 hb2 17 (by decide) _ _ _ h) (Nat.le_of_ble_eq_true rfl) (Nat.le_of_ble_eq_true rfl) (Nat.le_of_ble_eq_true rfl) (Nat.le_of_ble_eq_true rfl) (Nat.le_of_ble_eq_true rfl) dL_acts_440 rfl (fun s97 h => ?_)
          obtain ⟨n99, hok, hn60, h⟩ := h
          refine g_toStr2 (np := 446) B hT.1 hT.2 hb2 hok hn60 (fun X => [some (.ref (xad X 14 0)), some (.ref (xen X 5 0)), some (.int a3), some (.int r1), some (.int r3), some (.int r5)]) (fun X => .ref (xad X 14 0) :: []) (fun _ _ => rfl) (fun _ _ => rfl) (Nat.le_of_ble_eq_true rfl) dL_acts_443 (Nat.le_of_ble_eq_true rfl) (Nat.le_of_ble_eq_true rfl) (Nat.le_of_ble_eq_true rfl) (Nat.le_of_ble_eq_true rfl) rfl (fun K B h21 s98 es98 => ?_)
          replace h := h s98 es98
          refine gc_YLaw_181 (np := 449) B 0 h21 (oL_does B.1.tr 0 h21   _ _ _ h) (Nat.le_of_ble_eq_true rfl) (Nat.le_of_ble_eq_true rfl) (Nat.le_of_ble_eq_true rfl) (Nat.le_of_ble_eq_true rfl) (Nat.le_of_ble_eq_true rfl) dL_acts_446 rfl (fun r100 s101 h => ?_)
          exact g_iret B (ty := .int) rfl rfl (Nat.le_of_ble_eq_true rfl) (Nat.le_of_ble_eq_true rfl) dL_acts_449 ⟨_, rfl, h⟩
        · replace h := h.2 q
          refine g_newSB2 (np := 400) B hT.1 (fun X => [some (.ref (xad X 14 0)), some (.ref (xen X 5 0)), some (.int a3), some (.int r1), some (.int r3), some (.int r5)]) (fun X => .ref (xad X 14 0) :: []) (fun _ _ => rfl) (fun _ _ => rfl) (Nat.le_of_ble_eq_true rfl) dL_acts_393 dL_acts_396 dL_acts_397 (Nat.le_of_ble_eq_true rfl) (Nat.le_of_ble_eq_true rfl) (Nat.le_of_ble_eq_true rfl) (Nat.le_of_ble_eq_true rfl) rfl (fun K B hT9 hb2 s102 es102 => ?_)
          replace hT := And.intro (hT9.1.trans hT.2.1) (hT9.2.trans hT.2.2)
          replace h := h s102 es102
          refine g_ldcS (np := 402) B.1 (j := 14) (by decide) rfl rfl dL_acts_400 rfl ?_
          refine gc_YLaw_154 (np := 405) B 2 hb2 (oJ4_append_15ec4 B.1.tr 2 hb2 14 (by decide) _ _ _ h) (Nat.le_of_ble_eq_true rfl) (Nat.le_of_ble_eq_true rfl) (Nat.le_of_ble_eq_true rfl) (Nat.le_of_ble_eq_true rfl) (Nat.le_of_ble_eq_true rfl) dL_acts_402 rfl (fun s104 h => ?_)
          refine g_iload_n (np := 406) B.1 dL_acts_405 rfl rfl ?_
          refine gc_YLaw_158 (np := 409) B 2 hb2 (oJ4_append_bf812 B.1.tr 2 hb2 r1  _ _ _ h) (Nat.le_of_ble_eq_true rfl) (Nat.le_of_ble_eq_true rfl) (Nat.le_of_ble_eq_true rfl) (Nat.le_of_ble_eq_true rfl) (Nat.le_of_ble_eq_true rfl) dL_acts_406 rfl (fun s106 h => ?_)
          refine g_ldcS (np := 411) B.1 (j := 15) (by decide) rfl rfl dL_acts_409 rfl ?_
          refine gc_YLaw_154 (np := 414) B 2 hb2 (oJ4_append_15ec4 B.1.tr 2 hb2 15 (by decide) _ _ _ h) (Nat.le_of_ble_eq_true rfl) (Nat.le_of_ble_eq_true rfl) (Nat.le_of_ble_eq_true rfl) (Nat.le_of_ble_eq_true rfl) (Nat.le_of_ble_eq_true rfl) dL_acts_411 rfl (fun s108 h => ?_)
          obtain ⟨n110, hok, hn60, h⟩ := h
          refine g_toStr2 (np := 417) B hT.1 hT.2 hb2 hok hn60 (fun X => [some (.ref (xad X 14 0)), some (.ref (xen X 5 0)), some (.int a3), some (.int r1), some (.int r3), some (.int r5)]) (fun X => .ref (xad X 14 0) :: []) (fun _ _ => rfl) (fun _ _ => rfl) (Nat.le_of_ble_eq_true rfl) dL_acts_414 (Nat.le_of_ble_eq_true rfl) (Nat.le_of_ble_eq_true rfl) (Nat.le_of_ble_eq_true rfl) (Nat.le_of_ble_eq_true rfl) rfl (fun K B h21 s109 es109 => ?_)
          replace h := h s109 es109
          refine g_goto (tgt := 446) B.1 dL_acts_417 (by decide) ?_
          refine gc_YLaw_181 (np := 449) B 0 h21 (oL_does B.1.tr 0 h21   _ _ _ h) (Nat.le_of_ble_eq_true rfl) (Nat.le_of_ble_eq_true rfl) (Nat.le_of_ble_eq_true rfl) (Nat.le_of_ble_eq_true rfl) (Nat.le_of_ble_eq_true rfl) dL_acts_446 rfl (fun r111 s112 h => ?_)
          exact g_iret B (ty := .int) rfl rfl (Nat.le_of_ble_eq_true rfl) (Nat.le_of_ble_eq_true rfl) dL_acts_449 ⟨_, rfl, h⟩
      · replace h := h.2 q
        refine g_newSB2 (np := 355) B hT.1 (fun X => [some (.ref (xad X 14 0)), some (.ref (xen X 5 0)), some (.int a3), some (.int r1), some (.int r3), some (.int r5)]) (fun X => .ref (xad X 14 0) :: []) (fun _ _ => rfl) (fun _ _ => rfl) (Nat.le_of_ble_eq_true rfl) dL_acts_348 dL_acts_351 dL_acts_352 (Nat.le_of_ble_eq_true rfl) (Nat.le_of_ble_eq_true rfl) (Nat.le_of_ble_eq_true rfl) (Nat.le_of_ble_eq_true rfl) rfl (fun K B hT9 hb2 s113 es113 => ?_)
        replace hT := And.intro (hT9.1.trans hT.2.1) (hT9.2.trans hT.2.2)
        replace h := h s113 es113
        refine g_ldcS (np := 357) B.1 (j := 12) (by decide) rfl rfl dL_acts_355 rfl ?_
        refine gc_YLaw_154 (np := 360) B 2 hb2 (oJ4_append_15ec4 B.1.tr 2 hb2 12 (by decide) _ _ _ h) (Nat.le_of_ble_eq_true rfl) (Nat.le_of_ble_eq_true rfl) (Nat.le_of_ble_eq_true rfl) (Nat.le_of_ble_eq_true rfl) (Nat.le_of_ble_eq_true rfl) dL_acts_357 rfl (fun s115 h => ?_)
        refine g_iconst (np := 361) (v := 1) B.1 dL_acts_360 (by decide) rfl ?_
        refine g_iload_n (np := 362) B.1 dL_acts_361 rfl rfl ?_
        refine g_iadd (np := 363) B.1 dL_acts_362 rfl ?_
        refine gc_YLaw_158 (np := 366) B 2 hb2 (oJ4_append_bf812 B.1.tr 2 hb2 (1 + r1)  _ _ _ h) (Nat.le_of_ble_eq_true rfl) (Nat.le_of_ble_eq_true rfl) (Nat.le_of_ble_eq_true rfl) (Nat.le_of_ble_eq_true rfl) (Nat.le_of_ble_eq_true rfl) dL_acts_363 rfl (fun s117 h => ?_)
        refine g_ldcS (np := 368) B.1 (j := 13) (by decide) rfl rfl dL_acts_366 rfl ?_
        refine gc_YLaw_154 (np := 371) B 2 hb2 (oJ4_append_15ec4 B.1.tr 2 hb2 13 (by decide) _ _ _ h) (Nat.le_of_ble_eq_true rfl) (Nat.le_of_ble_eq_true rfl) (Nat.le_of_ble_eq_true rfl) (Nat.le_of_ble_eq_true rfl) (Nat.le_of_ble_eq_true rfl) dL_acts_368 rfl (fun s119 h => ?_)
        refine g_aload_n (np := 372) B.1 dL_acts_371 rfl rfl ?_
        refine g_iload_n (np := 373) B.1 dL_acts_372 rfl rfl ?_
        refine gc_YLaw_138 (np := 376) B   (oL_order B.1.tr   r1  _ _ _ h) (Nat.le_of_ble_eq_true rfl) (Nat.le_of_ble_eq_true rfl) (Nat.le_of_ble_eq_true rfl) (Nat.le_of_ble_eq_true rfl) (Nat.le_of_ble_eq_true rfl) dL_acts_373 rfl (fun r120 s121 h => ?_)
        refine gc_YLaw_158 (np := 379) B 2 hb2 (oJ4_append_bf812 B.1.tr 2 hb2 r120  _ _ _ h) (Nat.le_of_ble_eq_true rfl) (Nat.le_of_ble_eq_true rfl) (Nat.le_of_ble_eq_true rfl) (Nat.le_of_ble_eq_true rfl) (Nat.le_of_ble_eq_true rfl) dL_acts_376 rfl (fun s123 h => ?_)
        obtain ⟨n125, hok, hn60, h⟩ := h
        refine g_toStr2 (np := 382) B hT.1 hT.2 hb2 hok hn60 (fun X => [some (.ref (xad X 14 0)), some (.ref (xen X 5 0)), some (.int a3), some (.int r1), some (.int r3), some (.int r5)]) (fun X => .ref (xad X 14 0) :: []) (fun _ _ => rfl) (fun _ _ => rfl) (Nat.le_of_ble_eq_true rfl) dL_acts_379 (Nat.le_of_ble_eq_true rfl) (Nat.le_of_ble_eq_true rfl) (Nat.le_of_ble_eq_true rfl) (Nat.le_of_ble_eq_true rfl) rfl (fun K B h21 s124 es124 => ?_)
        replace h := h s124 es124
        refine g_goto (tgt := 446) B.1 dL_acts_382 (by decide) ?_
        refine gc_YLaw_181 (np := 449) B 0 h21 (oL_does B.1.tr 0 h21   _ _ _ h) (Nat.le_of_ble_eq_true rfl) (Nat.le_of_ble_eq_true rfl) (Nat.le_of_ble_eq_true rfl) (Nat.le_of_ble_eq_true rfl) (Nat.le_of_ble_eq_true rfl) dL_acts_446 rfl (fun r126 s127 h => ?_)
        exact g_iret B (ty := .int) rfl rfl (Nat.le_of_ble_eq_true rfl) (Nat.le_of_ble_eq_true rfl) dL_acts_449 ⟨_, rfl, h⟩
    · replace h := h.2 q
      refine g_newSB2 (np := 303) B hT.1 (fun X => [some (.ref (xad X 14 0)), some (.ref (xen X 5 0)), some (.int a3), some (.int r1), some (.int r3), some (.int r5)]) (fun X => .ref (xad X 14 0) :: []) (fun _ _ => rfl) (fun _ _ => rfl) (Nat.le_of_ble_eq_true rfl) dL_acts_296 dL_acts_299 dL_acts_300 (Nat.le_of_ble_eq_true rfl) (Nat.le_of_ble_eq_true rfl) (Nat.le_of_ble_eq_true rfl) (Nat.le_of_ble_eq_true rfl) rfl (fun K B hT9 hb2 s128 es128 => ?_)
      replace hT := And.intro (hT9.1.trans hT.2.1) (hT9.2.trans hT.2.2)
      replace h := h s128 es128
      refine g_ldcS (np := 305) B.1 (j := 9) (by decide) rfl rfl dL_acts_303 rfl ?_
      refine gc_YLaw_154 (np := 308) B 2 hb2 (oJ4_append_15ec4 B.1.tr 2 hb2 9 (by decide) _ _ _ h) (Nat.le_of_ble_eq_true rfl) (Nat.le_of_ble_eq_true rfl) (Nat.le_of_ble_eq_true rfl) (Nat.le_of_ble_eq_true rfl) (Nat.le_of_ble_eq_true rfl) dL_acts_305 rfl (fun s130 h => ?_)
      refine g_iconst (np := 309) (v := 1) B.1 dL_acts_308 (by decide) rfl ?_
      refine g_iload (np := 311) B.1 dL_acts_309 rfl rfl ?_
      refine g_bipush (np := 313) (v := 50) B.1 dL_acts_311 (by decide) rfl ?_
      refine g_irem (np := 314) B.1 dL_acts_313 (by decide) rfl ?_
      refine g_iadd (np := 315) B.1 dL_acts_314 rfl ?_
      refine gc_YLaw_158 (np := 318) B 2 hb2 (oJ4_append_bf812 B.1.tr 2 hb2 (1 + (r3 - r3 / 50 * 50))  _ _ _ h) (Nat.le_of_ble_eq_true rfl) (Nat.le_of_ble_eq_true rfl) (Nat.le_of_ble_eq_true rfl) (Nat.le_of_ble_eq_true rfl) (Nat.le_of_ble_eq_true rfl) dL_acts_315 rfl (fun s132 h => ?_)
      refine g_ldcS (np := 320) B.1 (j := 10) (by decide) rfl rfl dL_acts_318 rfl ?_
      refine gc_YLaw_154 (np := 323) B 2 hb2 (oJ4_append_15ec4 B.1.tr 2 hb2 10 (by decide) _ _ _ h) (Nat.le_of_ble_eq_true rfl) (Nat.le_of_ble_eq_true rfl) (Nat.le_of_ble_eq_true rfl) (Nat.le_of_ble_eq_true rfl) (Nat.le_of_ble_eq_true rfl) dL_acts_320 rfl (fun s134 h => ?_)
      refine g_iconst (np := 324) (v := 1) B.1 dL_acts_323 (by decide) rfl ?_
      refine g_iload_n (np := 325) B.1 dL_acts_324 rfl rfl ?_
      refine g_iadd (np := 326) B.1 dL_acts_325 rfl ?_
      refine gc_YLaw_158 (np := 329) B 2 hb2 (oJ4_append_bf812 B.1.tr 2 hb2 (1 + r1)  _ _ _ h) (Nat.le_of_ble_eq_true rfl) (Nat.le_of_ble_eq_true rfl) (Nat.le_of_ble_eq_true rfl) (Nat.le_of_ble_eq_true rfl) (Nat.le_of_ble_eq_true rfl) dL_acts_326 rfl (fun s136 h => ?_)
      refine g_ldcS (np := 331) B.1 (j := 11) (by decide) rfl rfl dL_acts_329 rfl ?_
      refine gc_YLaw_154 (np := 334) B 2 hb2 (oJ4_append_15ec4 B.1.tr 2 hb2 11 (by decide) _ _ _ h) (Nat.le_of_ble_eq_true rfl) (Nat.le_of_ble_eq_true rfl) (Nat.le_of_ble_eq_true rfl) (Nat.le_of_ble_eq_true rfl) (Nat.le_of_ble_eq_true rfl) dL_acts_331 rfl (fun s138 h => ?_)
      obtain ⟨n140, hok, hn60, h⟩ := h
      refine g_toStr2 (np := 337) B hT.1 hT.2 hb2 hok hn60 (fun X => [some (.ref (xad X 14 0)), some (.ref (xen X 5 0)), some (.int a3), some (.int r1), some (.int r3), some (.int r5)]) (fun X => .ref (xad X 14 0) :: []) (fun _ _ => rfl) (fun _ _ => rfl) (Nat.le_of_ble_eq_true rfl) dL_acts_334 (Nat.le_of_ble_eq_true rfl) (Nat.le_of_ble_eq_true rfl) (Nat.le_of_ble_eq_true rfl) (Nat.le_of_ble_eq_true rfl) rfl (fun K B h21 s139 es139 => ?_)
      replace h := h s139 es139
      refine g_goto (tgt := 446) B.1 dL_acts_337 (by decide) ?_
      refine gc_YLaw_181 (np := 449) B 0 h21 (oL_does B.1.tr 0 h21   _ _ _ h) (Nat.le_of_ble_eq_true rfl) (Nat.le_of_ble_eq_true rfl) (Nat.le_of_ble_eq_true rfl) (Nat.le_of_ble_eq_true rfl) (Nat.le_of_ble_eq_true rfl) dL_acts_446 rfl (fun r141 s142 h => ?_)
      exact g_iret B (ty := .int) rfl rfl (Nat.le_of_ble_eq_true rfl) (Nat.le_of_ble_eq_true rfl) dL_acts_449 ⟨_, rfl, h⟩
  have o_0 := i32_ne n_0 (n := 0) (by decide)
  have o_1 := i32_ne n_1 (n := 1) (by decide)
  have o_2 := i32_ne n_2 (n := 2) (by decide)
  have o_3 := i32_ne n_3 (n := 3) (by decide)
  have o_4 := i32_ne n_4 (n := 4) (by decide)
  have o_5 := i32_ne n_5 (n := 5) (by decide)
  have o_6 := i32_ne n_6 (n := 6) (by decide)
  have o_7 := i32_ne n_7 (n := 7) (by decide)
  have o_8 := i32_ne n_8 (n := 8) (by decide)
  have o_9 := i32_ne n_9 (n := 9) (by decide)
  have o_10 := i32_ne n_10 (n := 10) (by decide)
  have o_11 := i32_ne n_11 (n := 11) (by decide)
  have o_12 := i32_ne n_12 (n := 12) (by decide)
  have o_13 := i32_ne n_13 (n := 13) (by decide)
  have o_14 := i32_ne n_14 (n := 14) (by decide)
  have o_15 := i32_ne n_15 (n := 15) (by decide)
  have o_16 := i32_ne n_16 (n := 16) (by decide)
  have o_17 := i32_ne n_17 (n := 17) (by decide)
  have o_18 := i32_ne n_18 (n := 18) (by decide)
  have o_19 := i32_ne n_19 (n := 19) (by decide)
  have o_20 := i32_ne n_20 (n := 20) (by decide)
  have o_21 := i32_ne n_21 (n := 21) (by decide)
  have o_22 := i32_ne n_22 (n := 22) (by decide)
  exact g_tabOut (tgt := 288) B.1 dL_acts_39 (by omega) (by decide) key

def wL_seen_81 (k : Nat)  (Q : Mem → Prop) (E : String → Mem → Prop)  (X149 : Mem → Prop) : Nat → Int32 → Mem → Prop
  | 0, _, _ => False
  | n81 + 1, v2, s0 => wX12_baleCount   s0 (fun (r32 : Int32) (s33 : Mem) => ((r32 ≤ v2 → X149  s33) ∧ (¬ r32 ≤ v2 → wX12_baleAt  v2 s33 (fun (r34 : Int32) (s35 : Mem) => vp_in (10 + (4 * v2)) 110 ∧ ∀ s36 : Mem, s36 = wr s35 19 k (10 + (4 * v2)).toNatClampNeg r34 → wX12_weight  r34 s36 (fun (r37 : Int32) (s38 : Mem) => vp_in (11 + (4 * v2)) 110 ∧ ∀ s39 : Mem, s39 = wr s38 19 k (11 + (4 * v2)).toNatClampNeg r37 → wX12_staple  r34 s39 (fun (r40 : Int32) (s41 : Mem) => vp_in (12 + (4 * v2)) 110 ∧ ∀ s42 : Mem, s42 = wr s41 19 k (12 + (4 * v2)).toNatClampNeg r40 → wX12_price  r34 s42 (fun (r43 : Int32) (s44 : Mem) => vp_in (13 + (4 * v2)) 110 ∧ ∀ s45 : Mem, s45 = wr s44 19 k (13 + (4 * v2)).toNatClampNeg r43 → ∀ v2_46 : Int32, v2_46 = (v2 + 1) → wL_seen_81 k  Q E X149 n81 v2_46 s45) E) E) E) E))) E
def wL_seen_151 (k : Nat)  (Q : Mem → Prop) (E : String → Mem → Prop)  (X227 : Mem → Prop) : Nat → Int32 → Mem → Prop
  | 0, _, _ => False
  | n151 + 1, v2, s0 => wX12_orderCount   s0 (fun (r48 : Int32) (s49 : Mem) => ((r48 ≤ v2 → X227  s49) ∧ (¬ r48 ≤ v2 → wX12_orderAt  v2 s49 (fun (r50 : Int32) (s51 : Mem) => vp_in (52 + (4 * v2)) 110 ∧ ∀ s52 : Mem, s52 = wr s51 19 k (52 + (4 * v2)).toNatClampNeg r50 → wX12_lengthOf  r50 s52 (fun (r53 : Int32) (s54 : Mem) => vp_in (53 + (4 * v2)) 110 ∧ ∀ s55 : Mem, s55 = wr s54 19 k (53 + (4 * v2)).toNatClampNeg r53 → wX12_twistOf  r50 s55 (fun (r56 : Int32) (s57 : Mem) => vp_in (54 + (4 * v2)) 110 ∧ ∀ s58 : Mem, s58 = wr s57 19 k (54 + (4 * v2)).toNatClampNeg r56 → wX12_canSpin  r50 s58 (fun (r59 : Int32) (s60 : Mem) => ((r59 = 0 → vp_in (55 + (4 * v2)) 110 ∧ ∀ s61 : Mem, s61 = wr s60 19 k (55 + (4 * v2)).toNatClampNeg 0 → ∀ v2_62 : Int32, v2_62 = (v2 + 1) → wL_seen_151 k  Q E X227 n151 v2_62 s61) ∧ (¬ r59 = 0 → vp_in (55 + (4 * v2)) 110 ∧ ∀ s63 : Mem, s63 = wr s60 19 k (55 + (4 * v2)).toNatClampNeg 1 → ∀ v2_64 : Int32, v2_64 = (v2 + 1) → wL_seen_151 k  Q E X227 n151 v2_64 s63))) E) E) E) E))) E
def wL_seen_229 (k : Nat)  (Q : Mem → Prop) (E : String → Mem → Prop)  (X254 : Mem → Prop) : Nat → Int32 → Mem → Prop
  | 0, _, _ => False
  | n229 + 1, v2, s0 => wX12_pieceCount   s0 (fun (r66 : Int32) (s67 : Mem) => ((r66 ≤ v2 → X254  s67) ∧ (¬ r66 ≤ v2 → wX12_pieceLength  v2 s67 (fun (r68 : Int32) (s69 : Mem) => vp_in (90 + v2) 110 ∧ ∀ s70 : Mem, s70 = wr s69 19 k (90 + v2).toNatClampNeg r68 → ∀ v2_71 : Int32, v2_71 = (v2 + 1) → wL_seen_229 k  Q E X254 n229 v2_71 s70) E))) E
def wL_seen (k : Nat) (s0 : Mem) (Q : Mem → Prop) (E : String → Mem → Prop) : Prop := ∀ s1 : Mem, NewA s0 s1 k → wX12_coins   s1 (fun (r2 : Int32) (s3 : Mem) => ∀ s4 : Mem, s4 = wr s3 19 k 0 r2 → wX12_roving   s4 (fun (r5 : Int32) (s6 : Mem) => ∀ s7 : Mem, s7 = wr s6 19 k 1 r5 → wX12_clock   s7 (fun (r8 : Int32) (s9 : Mem) => ∀ s10 : Mem, s10 = wr s9 19 k 2 r8 → wX12_machines   s10 (fun (r11 : Int32) (s12 : Mem) => ∀ s13 : Mem, s13 = wr s12 19 k 3 r11 → wX12_spunTotal   s13 (fun (r14 : Int32) (s15 : Mem) => ∀ s16 : Mem, s16 = wr s15 19 k 4 r14 → wX12_wasteTotal   s16 (fun (r17 : Int32) (s18 : Mem) => ∀ s19 : Mem, s19 = wr s18 19 k 5 r17 → wX12_soldTotal   s19 (fun (r20 : Int32) (s21 : Mem) => ∀ s22 : Mem, s22 = wr s21 19 k 6 r20 → wX12_baleCount   s22 (fun (r23 : Int32) (s24 : Mem) => ∀ s25 : Mem, s25 = wr s24 19 k 7 r23 → wX12_orderCount   s25 (fun (r26 : Int32) (s27 : Mem) => ∀ s28 : Mem, s28 = wr s27 19 k 8 r26 → wX12_pieceCount   s28 (fun (r29 : Int32) (s30 : Mem) => ∀ s31 : Mem, s31 = wr s30 19 k 9 r29 → ∃ m75 : Nat, m75 ≤ 13 ∧ wL_seen_81 k  Q E (fun (s47 : Mem) => ∃ m74 : Nat, m74 ≤ 13 ∧ wL_seen_151 k  Q E (fun (s65 : Mem) => ∃ m73 : Nat, m73 ≤ 13 ∧ wL_seen_229 k  Q E (fun (s72 : Mem) => Q s72) m73 0  s65) m74 0  s47) m75 0  s31) E) E) E) E) E) E) E) E) E) E
set_option maxRecDepth 20000 in
set_option maxHeartbeats 4000000 in
theorem oL_seen_81 {k : Nat} {K : Fr} {Q : Mem → Prop} {E : String → Mem → Prop} (B : Bd K cL_seen "YarnMillLaw" 4 (some (.array .int)) 8 125 118 812 (RR (xad (fX K) 19 k) Q) E)   (hk : k < oCnt (fX K) 19) {X149 : Mem → Prop} {CM SM : Nat} (hX149 : ∀ (τ : Mem), X149  τ → Go K CM SM τ 149 [some (.ref (xad (fX K) 14 0)), some (.ref (xad (fX K) 19 k)), none, none] ([])) (hCM : CM ≤ 118) (hSM : SM ≤ 812) : ∀ (n : Nat) {cells slots : Nat} (hc : cells + n * 4 ≤ CM) (hs : slots + n * 24 ≤ SM) (v2 : Int32) (s0 : Mem), wL_seen_81 k  Q E X149 n v2 s0 → Go K cells slots s0 81 [some (.ref (xad (fX K) 14 0)), some (.ref (xad (fX K) 19 k)), some (.int v2), none] ([]) := by
  intro n
  induction n with
  | zero => intro cells slots hc hs v2 s0 h; exact absurd h (by simp [wL_seen_81])
  | succ n ih =>
    intro cells slots hc hs v2 s0 h
    simp only [wL_seen_81] at h
    refine g_iload_n (np := 82) B.1 dL_seen_81 rfl rfl ?_
    refine g_aload_n (np := 83) B.1 dL_seen_82 rfl rfl ?_
    refine gc_YLaw_126 (np := 86) B   (oX12_baleCount B.1.tr     _ _ _ h) (Nat.le_of_ble_eq_true rfl) (Nat.le_of_ble_eq_true rfl) (Nat.le_of_ble_eq_true rfl) (by omega) (by omega) dL_seen_83 rfl (fun r32 s33 h => ?_)
    refine g_icmp_ge (np := 89) (tgt := 149) B.1 dL_seen_86 (by decide) rfl (fun q => ?_) (fun q => ?_)
    · replace h := h.1 q
      refine Go.lle [some (.ref (xad (fX K) 14 0)), some (.ref (xad (fX K) 19 k)), none, none] (by simp [lle]) ?_
      exact Go.widen (by omega) (by omega) (hX149  s33 h)
    · replace h := h.2 q
      refine g_aload_n (np := 90) B.1 dL_seen_89 rfl rfl ?_
      refine g_iload_n (np := 91) B.1 dL_seen_90 rfl rfl ?_
      refine gc_YLaw_129 (np := 94) B   (oX12_baleAt B.1.tr   v2  _ _ _ h) (Nat.le_of_ble_eq_true rfl) (Nat.le_of_ble_eq_true rfl) (Nat.le_of_ble_eq_true rfl) (by omega) (by omega) dL_seen_91 rfl (fun r34 s35 h => ?_)
      refine g_istore_n (np := 95) (lv' := [some (.ref (xad (fX K) 14 0)), some (.ref (xad (fX K) 19 k)), some (.int v2), some (.int r34)]) B.1 dL_seen_94 (by decide) rfl rfl rfl ?_
      refine g_aload_n (np := 96) B.1 dL_seen_95 rfl rfl ?_
      refine g_bipush (np := 98) (v := 10) B.1 dL_seen_96 (by decide) rfl ?_
      refine g_iconst (np := 99) (v := 4) B.1 dL_seen_98 (by decide) rfl ?_
      refine g_iload_n (np := 100) B.1 dL_seen_99 rfl rfl ?_
      refine g_imul (np := 101) B.1 dL_seen_100 rfl ?_
      refine g_iadd (np := 102) B.1 dL_seen_101 rfl ?_
      refine g_iload_n (np := 103) B.1 dL_seen_102 rfl rfl ?_
      refine g_iast (np := 104) B.1 19 k hk rfl (fun _ _ => rfl) h.1 dL_seen_103 rfl ?_
      replace h := h.2
      refine g_mem (fun s36 es36 => ?_)
      replace h := h s36 es36
      refine g_aload_n (np := 105) B.1 dL_seen_104 rfl rfl ?_
      refine g_bipush (np := 107) (v := 11) B.1 dL_seen_105 (by decide) rfl ?_
      refine g_iconst (np := 108) (v := 4) B.1 dL_seen_107 (by decide) rfl ?_
      refine g_iload_n (np := 109) B.1 dL_seen_108 rfl rfl ?_
      refine g_imul (np := 110) B.1 dL_seen_109 rfl ?_
      refine g_iadd (np := 111) B.1 dL_seen_110 rfl ?_
      refine g_aload_n (np := 112) B.1 dL_seen_111 rfl rfl ?_
      refine g_iload_n (np := 113) B.1 dL_seen_112 rfl rfl ?_
      refine gc_YLaw_209 (np := 116) B   (oX12_weight B.1.tr   r34  _ _ _ h) (Nat.le_of_ble_eq_true rfl) (Nat.le_of_ble_eq_true rfl) (Nat.le_of_ble_eq_true rfl) (by omega) (by omega) dL_seen_113 rfl (fun r37 s38 h => ?_)
      refine g_iast (np := 117) B.1 19 k hk rfl (fun _ _ => rfl) h.1 dL_seen_116 rfl ?_
      replace h := h.2
      refine g_mem (fun s39 es39 => ?_)
      replace h := h s39 es39
      refine g_aload_n (np := 118) B.1 dL_seen_117 rfl rfl ?_
      refine g_bipush (np := 120) (v := 12) B.1 dL_seen_118 (by decide) rfl ?_
      refine g_iconst (np := 121) (v := 4) B.1 dL_seen_120 (by decide) rfl ?_
      refine g_iload_n (np := 122) B.1 dL_seen_121 rfl rfl ?_
      refine g_imul (np := 123) B.1 dL_seen_122 rfl ?_
      refine g_iadd (np := 124) B.1 dL_seen_123 rfl ?_
      refine g_aload_n (np := 125) B.1 dL_seen_124 rfl rfl ?_
      refine g_iload_n (np := 126) B.1 dL_seen_125 rfl rfl ?_
      refine gc_YLaw_212 (np := 129) B   (oX12_staple B.1.tr   r34  _ _ _ h) (Nat.le_of_ble_eq_true rfl) (Nat.le_of_ble_eq_true rfl) (Nat.le_of_ble_eq_true rfl) (by omega) (by omega) dL_seen_126 rfl (fun r40 s41 h => ?_)
      refine g_iast (np := 130) B.1 19 k hk rfl (fun _ _ => rfl) h.1 dL_seen_129 rfl ?_
      replace h := h.2
      refine g_mem (fun s42 es42 => ?_)
      replace h := h s42 es42
      refine g_aload_n (np := 131) B.1 dL_seen_130 rfl rfl ?_
      refine g_bipush (np := 133) (v := 13) B.1 dL_seen_131 (by decide) rfl ?_
      refine g_iconst (np := 134) (v := 4) B.1 dL_seen_133 (by decide) rfl ?_
      refine g_iload_n (np := 135) B.1 dL_seen_134 rfl rfl ?_
      refine g_imul (np := 136) B.1 dL_seen_135 rfl ?_
      refine g_iadd (np := 137) B.1 dL_seen_136 rfl ?_
      refine g_aload_n (np := 138) B.1 dL_seen_137 rfl rfl ?_
      refine g_iload_n (np := 139) B.1 dL_seen_138 rfl rfl ?_
      refine gc_YLaw_215 (np := 142) B   (oX12_price B.1.tr   r34  _ _ _ h) (Nat.le_of_ble_eq_true rfl) (Nat.le_of_ble_eq_true rfl) (Nat.le_of_ble_eq_true rfl) (by omega) (by omega) dL_seen_139 rfl (fun r43 s44 h => ?_)
      refine g_iast (np := 143) B.1 19 k hk rfl (fun _ _ => rfl) h.1 dL_seen_142 rfl ?_
      replace h := h.2
      refine g_mem (fun s45 es45 => ?_)
      replace h := h s45 es45
      obtain ⟨v2_46, ev2_46⟩ : ∃ y : Int32, y = v2 + 1 := ⟨_, rfl⟩
      replace h := h v2_46 ev2_46
      refine g_iinc (np := 146) (v := v2_46) (lv' := [some (.ref (xad (fX K) 14 0)), some (.ref (xad (fX K) 19 k)), some (.int v2_46), some (.int r34)]) B.1 dL_seen_143 rfl (by rw [ev2_46]; rfl) (by decide) rfl rfl rfl ?_
      refine g_goto (tgt := 81) B.1 dL_seen_146 (by decide) ?_
      refine Go.lle [some (.ref (xad (fX K) 14 0)), some (.ref (xad (fX K) 19 k)), some (.int v2_46), none] (by simp [lle]) ?_
      exact ih (by omega) (by omega) v2_46 s45 h
set_option maxRecDepth 20000 in
set_option maxHeartbeats 4000000 in
theorem oL_seen_151 {k : Nat} {K : Fr} {Q : Mem → Prop} {E : String → Mem → Prop} (B : Bd K cL_seen "YarnMillLaw" 4 (some (.array .int)) 8 125 118 812 (RR (xad (fX K) 19 k) Q) E)   (hk : k < oCnt (fX K) 19) {X227 : Mem → Prop} {CM SM : Nat} (hX227 : ∀ (τ : Mem), X227  τ → Go K CM SM τ 227 [some (.ref (xad (fX K) 14 0)), some (.ref (xad (fX K) 19 k)), none, none] ([])) (hCM : CM ≤ 118) (hSM : SM ≤ 812) : ∀ (n : Nat) {cells slots : Nat} (hc : cells + n * 4 ≤ CM) (hs : slots + n * 24 ≤ SM) (v2 : Int32) (s0 : Mem), wL_seen_151 k  Q E X227 n v2 s0 → Go K cells slots s0 151 [some (.ref (xad (fX K) 14 0)), some (.ref (xad (fX K) 19 k)), some (.int v2), none] ([]) := by
  intro n
  induction n with
  | zero => intro cells slots hc hs v2 s0 h; exact absurd h (by simp [wL_seen_151])
  | succ n ih =>
    intro cells slots hc hs v2 s0 h
    simp only [wL_seen_151] at h
    refine g_iload_n (np := 152) B.1 dL_seen_151 rfl rfl ?_
    refine g_aload_n (np := 153) B.1 dL_seen_152 rfl rfl ?_
    refine gc_YLaw_132 (np := 156) B   (oX12_orderCount B.1.tr     _ _ _ h) (Nat.le_of_ble_eq_true rfl) (Nat.le_of_ble_eq_true rfl) (Nat.le_of_ble_eq_true rfl) (by omega) (by omega) dL_seen_153 rfl (fun r48 s49 h => ?_)
    refine g_icmp_ge (np := 159) (tgt := 227) B.1 dL_seen_156 (by decide) rfl (fun q => ?_) (fun q => ?_)
    · replace h := h.1 q
      refine Go.lle [some (.ref (xad (fX K) 14 0)), some (.ref (xad (fX K) 19 k)), none, none] (by simp [lle]) ?_
      exact Go.widen (by omega) (by omega) (hX227  s49 h)
    · replace h := h.2 q
      refine g_aload_n (np := 160) B.1 dL_seen_159 rfl rfl ?_
      refine g_iload_n (np := 161) B.1 dL_seen_160 rfl rfl ?_
      refine gc_YLaw_135 (np := 164) B   (oX12_orderAt B.1.tr   v2  _ _ _ h) (Nat.le_of_ble_eq_true rfl) (Nat.le_of_ble_eq_true rfl) (Nat.le_of_ble_eq_true rfl) (by omega) (by omega) dL_seen_161 rfl (fun r50 s51 h => ?_)
      refine g_istore_n (np := 165) (lv' := [some (.ref (xad (fX K) 14 0)), some (.ref (xad (fX K) 19 k)), some (.int v2), some (.int r50)]) B.1 dL_seen_164 (by decide) rfl rfl rfl ?_
      refine g_aload_n (np := 166) B.1 dL_seen_165 rfl rfl ?_
      refine g_bipush (np := 168) (v := 52) B.1 dL_seen_166 (by decide) rfl ?_
      refine g_iconst (np := 169) (v := 4) B.1 dL_seen_168 (by decide) rfl ?_
      refine g_iload_n (np := 170) B.1 dL_seen_169 rfl rfl ?_
      refine g_imul (np := 171) B.1 dL_seen_170 rfl ?_
      refine g_iadd (np := 172) B.1 dL_seen_171 rfl ?_
      refine g_iload_n (np := 173) B.1 dL_seen_172 rfl rfl ?_
      refine g_iast (np := 174) B.1 19 k hk rfl (fun _ _ => rfl) h.1 dL_seen_173 rfl ?_
      replace h := h.2
      refine g_mem (fun s52 es52 => ?_)
      replace h := h s52 es52
      refine g_aload_n (np := 175) B.1 dL_seen_174 rfl rfl ?_
      refine g_bipush (np := 177) (v := 53) B.1 dL_seen_175 (by decide) rfl ?_
      refine g_iconst (np := 178) (v := 4) B.1 dL_seen_177 (by decide) rfl ?_
      refine g_iload_n (np := 179) B.1 dL_seen_178 rfl rfl ?_
      refine g_imul (np := 180) B.1 dL_seen_179 rfl ?_
      refine g_iadd (np := 181) B.1 dL_seen_180 rfl ?_
      refine g_aload_n (np := 182) B.1 dL_seen_181 rfl rfl ?_
      refine g_iload_n (np := 183) B.1 dL_seen_182 rfl rfl ?_
      refine gc_YLaw_218 (np := 186) B   (oX12_lengthOf B.1.tr   r50  _ _ _ h) (Nat.le_of_ble_eq_true rfl) (Nat.le_of_ble_eq_true rfl) (Nat.le_of_ble_eq_true rfl) (by omega) (by omega) dL_seen_183 rfl (fun r53 s54 h => ?_)
      refine g_iast (np := 187) B.1 19 k hk rfl (fun _ _ => rfl) h.1 dL_seen_186 rfl ?_
      replace h := h.2
      refine g_mem (fun s55 es55 => ?_)
      replace h := h s55 es55
      refine g_aload_n (np := 188) B.1 dL_seen_187 rfl rfl ?_
      refine g_bipush (np := 190) (v := 54) B.1 dL_seen_188 (by decide) rfl ?_
      refine g_iconst (np := 191) (v := 4) B.1 dL_seen_190 (by decide) rfl ?_
      refine g_iload_n (np := 192) B.1 dL_seen_191 rfl rfl ?_
      refine g_imul (np := 193) B.1 dL_seen_192 rfl ?_
      refine g_iadd (np := 194) B.1 dL_seen_193 rfl ?_
      refine g_aload_n (np := 195) B.1 dL_seen_194 rfl rfl ?_
      refine g_iload_n (np := 196) B.1 dL_seen_195 rfl rfl ?_
      refine gc_YLaw_221 (np := 199) B   (oX12_twistOf B.1.tr   r50  _ _ _ h) (Nat.le_of_ble_eq_true rfl) (Nat.le_of_ble_eq_true rfl) (Nat.le_of_ble_eq_true rfl) (by omega) (by omega) dL_seen_196 rfl (fun r56 s57 h => ?_)
      refine g_iast (np := 200) B.1 19 k hk rfl (fun _ _ => rfl) h.1 dL_seen_199 rfl ?_
      replace h := h.2
      refine g_mem (fun s58 es58 => ?_)
      replace h := h s58 es58
      refine g_aload_n (np := 201) B.1 dL_seen_200 rfl rfl ?_
      refine g_bipush (np := 203) (v := 55) B.1 dL_seen_201 (by decide) rfl ?_
      refine g_iconst (np := 204) (v := 4) B.1 dL_seen_203 (by decide) rfl ?_
      refine g_iload_n (np := 205) B.1 dL_seen_204 rfl rfl ?_
      refine g_imul (np := 206) B.1 dL_seen_205 rfl ?_
      refine g_iadd (np := 207) B.1 dL_seen_206 rfl ?_
      refine g_aload_n (np := 208) B.1 dL_seen_207 rfl rfl ?_
      refine g_iload_n (np := 209) B.1 dL_seen_208 rfl rfl ?_
      refine gc_YLaw_224 (np := 212) B   (oX12_canSpin B.1.tr   r50  _ _ _ h) (Nat.le_of_ble_eq_true rfl) (Nat.le_of_ble_eq_true rfl) (Nat.le_of_ble_eq_true rfl) (by omega) (by omega) dL_seen_209 rfl (fun r59 s60 h => ?_)
      refine g_if_eq (np := 215) (tgt := 219) B.1 dL_seen_212 (by decide) rfl (fun q => ?_) (fun q => ?_)
      · replace h := h.1 q
        refine g_iconst (np := 220) (v := 0) B.1 dL_seen_219 (by decide) rfl ?_
        refine g_iast (np := 221) B.1 19 k hk rfl (fun _ _ => rfl) h.1 dL_seen_220 rfl ?_
        replace h := h.2
        refine g_mem (fun s61 es61 => ?_)
        replace h := h s61 es61
        obtain ⟨v2_62, ev2_62⟩ : ∃ y : Int32, y = v2 + 1 := ⟨_, rfl⟩
        replace h := h v2_62 ev2_62
        refine g_iinc (np := 224) (v := v2_62) (lv' := [some (.ref (xad (fX K) 14 0)), some (.ref (xad (fX K) 19 k)), some (.int v2_62), some (.int r50)]) B.1 dL_seen_221 rfl (by rw [ev2_62]; rfl) (by decide) rfl rfl rfl ?_
        refine g_goto (tgt := 151) B.1 dL_seen_224 (by decide) ?_
        refine Go.lle [some (.ref (xad (fX K) 14 0)), some (.ref (xad (fX K) 19 k)), some (.int v2_62), none] (by simp [lle]) ?_
        exact ih (by omega) (by omega) v2_62 s61 h
      · replace h := h.2 q
        refine g_iconst (np := 216) (v := 1) B.1 dL_seen_215 (by decide) rfl ?_
        refine g_goto (tgt := 220) B.1 dL_seen_216 (by decide) ?_
        refine g_iast (np := 221) B.1 19 k hk rfl (fun _ _ => rfl) h.1 dL_seen_220 rfl ?_
        replace h := h.2
        refine g_mem (fun s63 es63 => ?_)
        replace h := h s63 es63
        obtain ⟨v2_64, ev2_64⟩ : ∃ y : Int32, y = v2 + 1 := ⟨_, rfl⟩
        replace h := h v2_64 ev2_64
        refine g_iinc (np := 224) (v := v2_64) (lv' := [some (.ref (xad (fX K) 14 0)), some (.ref (xad (fX K) 19 k)), some (.int v2_64), some (.int r50)]) B.1 dL_seen_221 rfl (by rw [ev2_64]; rfl) (by decide) rfl rfl rfl ?_
        refine g_goto (tgt := 151) B.1 dL_seen_224 (by decide) ?_
        refine Go.lle [some (.ref (xad (fX K) 14 0)), some (.ref (xad (fX K) 19 k)), some (.int v2_64), none] (by simp [lle]) ?_
        exact ih (by omega) (by omega) v2_64 s63 h
set_option maxRecDepth 20000 in
set_option maxHeartbeats 4000000 in
theorem oL_seen_229 {k : Nat} {K : Fr} {Q : Mem → Prop} {E : String → Mem → Prop} (B : Bd K cL_seen "YarnMillLaw" 4 (some (.array .int)) 8 125 118 812 (RR (xad (fX K) 19 k) Q) E)   (hk : k < oCnt (fX K) 19) {X254 : Mem → Prop} {CM SM : Nat} (hX254 : ∀ (τ : Mem), X254  τ → Go K CM SM τ 254 [none, some (.ref (xad (fX K) 19 k)), none, none] ([])) (hCM : CM ≤ 118) (hSM : SM ≤ 812) : ∀ (n : Nat) {cells slots : Nat} (hc : cells + n * 1 ≤ CM) (hs : slots + n * 6 ≤ SM) (v2 : Int32) (s0 : Mem), wL_seen_229 k  Q E X254 n v2 s0 → Go K cells slots s0 229 [some (.ref (xad (fX K) 14 0)), some (.ref (xad (fX K) 19 k)), some (.int v2), none] ([]) := by
  intro n
  induction n with
  | zero => intro cells slots hc hs v2 s0 h; exact absurd h (by simp [wL_seen_229])
  | succ n ih =>
    intro cells slots hc hs v2 s0 h
    simp only [wL_seen_229] at h
    refine g_iload_n (np := 230) B.1 dL_seen_229 rfl rfl ?_
    refine g_aload_n (np := 231) B.1 dL_seen_230 rfl rfl ?_
    refine gc_YLaw_206 (np := 234) B   (oX12_pieceCount B.1.tr     _ _ _ h) (Nat.le_of_ble_eq_true rfl) (Nat.le_of_ble_eq_true rfl) (Nat.le_of_ble_eq_true rfl) (by omega) (by omega) dL_seen_231 rfl (fun r66 s67 h => ?_)
    refine g_icmp_ge (np := 237) (tgt := 254) B.1 dL_seen_234 (by decide) rfl (fun q => ?_) (fun q => ?_)
    · replace h := h.1 q
      refine Go.lle [none, some (.ref (xad (fX K) 19 k)), none, none] (by simp [lle]) ?_
      exact Go.widen (by omega) (by omega) (hX254  s67 h)
    · replace h := h.2 q
      refine g_aload_n (np := 238) B.1 dL_seen_237 rfl rfl ?_
      refine g_bipush (np := 240) (v := 90) B.1 dL_seen_238 (by decide) rfl ?_
      refine g_iload_n (np := 241) B.1 dL_seen_240 rfl rfl ?_
      refine g_iadd (np := 242) B.1 dL_seen_241 rfl ?_
      refine g_aload_n (np := 243) B.1 dL_seen_242 rfl rfl ?_
      refine g_iload_n (np := 244) B.1 dL_seen_243 rfl rfl ?_
      refine gc_YLaw_228 (np := 247) B   (oX12_pieceLength B.1.tr   v2  _ _ _ h) (Nat.le_of_ble_eq_true rfl) (Nat.le_of_ble_eq_true rfl) (Nat.le_of_ble_eq_true rfl) (by omega) (by omega) dL_seen_244 rfl (fun r68 s69 h => ?_)
      refine g_iast (np := 248) B.1 19 k hk rfl (fun _ _ => rfl) h.1 dL_seen_247 rfl ?_
      replace h := h.2
      refine g_mem (fun s70 es70 => ?_)
      replace h := h s70 es70
      obtain ⟨v2_71, ev2_71⟩ : ∃ y : Int32, y = v2 + 1 := ⟨_, rfl⟩
      replace h := h v2_71 ev2_71
      refine g_iinc (np := 251) (v := v2_71) (lv' := [some (.ref (xad (fX K) 14 0)), some (.ref (xad (fX K) 19 k)), some (.int v2_71), none]) B.1 dL_seen_248 rfl (by rw [ev2_71]; rfl) (by decide) rfl rfl rfl ?_
      refine g_goto (tgt := 229) B.1 dL_seen_251 (by decide) ?_
      refine Go.lle [some (.ref (xad (fX K) 14 0)), some (.ref (xad (fX K) 19 k)), some (.int v2_71), none] (by simp [lle]) ?_
      exact ih (by omega) (by omega) v2_71 s70 h
set_option maxRecDepth 20000 in
set_option maxHeartbeats 4000000 in
theorem oL_seen {l : Launch} {x : Ctx} (hl : l.stackTraces = false) (k : Nat) (hk : k = xen x 30 1) (s0 : Mem) (Q : Mem → Prop) (h : wL_seen k s0 Q (fun _ _ => False)) : Met l yL_seen (Cond.code yL_seen cL_seen 4 (some (.array .int)) :: lw_good) ({ frames := 8, cells := 118, slots := 812, locals := 125 }) (va_Pc [.ref (xad x 14 0)] (Wd x s0)) (QNS x Q) 118 812 (XA x) := by
  refine MetC.of hl (by decide) (Nat.le_of_ble_eq_true rfl) [some (.ref (xad x 14 0)), none, none, none] rfl (fun K B eQ _ hx _ _ => ?_)
  subst hx
  unfold wL_seen at h
  refine g_bipush (np := 2) (v := 110) B.1 dL_seen_0 (by decide) rfl ?_
  refine g_seenAR (np := 4) B eQ hk (fun X => [some (.ref (xad X 14 0)), none, none, none]) (fun X => []) (fun _ _ => rfl) (fun _ _ => rfl) b_976 (Nat.le_of_ble_eq_true rfl) (Nat.le_of_ble_eq_true rfl) dL_seen_2 rfl (fun K B hk s1 es1 => ?_)
  replace h := h s1 es1
  refine g_astore_n (np := 5) (lv' := [some (.ref (xad (fX K) 14 0)), some (.ref (xad (fX K) 19 k)), none, none]) B.1 dL_seen_4 (by decide) rfl rfl rfl ?_
  refine g_aload_n (np := 6) B.1 dL_seen_5 rfl rfl ?_
  refine g_iconst (np := 7) (v := 0) B.1 dL_seen_6 (by decide) rfl ?_
  refine g_aload_n (np := 8) B.1 dL_seen_7 rfl rfl ?_
  refine gc_YLaw_185 (np := 11) B   (oX12_coins B.1.tr     _ _ _ h) (Nat.le_of_ble_eq_true rfl) (Nat.le_of_ble_eq_true rfl) (Nat.le_of_ble_eq_true rfl) (Nat.le_of_ble_eq_true rfl) (Nat.le_of_ble_eq_true rfl) dL_seen_8 rfl (fun r2 s3 h => ?_)
  refine g_iastL (np := 12) B.1 19 k hk rfl (fun _ _ => rfl) 0 (by decide) (vpl (by decide)) dL_seen_11 rfl ?_
  refine g_mem (fun s4 es4 => ?_)
  replace h := h s4 es4
  refine g_aload_n (np := 13) B.1 dL_seen_12 rfl rfl ?_
  refine g_iconst (np := 14) (v := 1) B.1 dL_seen_13 (by decide) rfl ?_
  refine g_aload_n (np := 15) B.1 dL_seen_14 rfl rfl ?_
  refine gc_YLaw_188 (np := 18) B   (oX12_roving B.1.tr     _ _ _ h) (Nat.le_of_ble_eq_true rfl) (Nat.le_of_ble_eq_true rfl) (Nat.le_of_ble_eq_true rfl) (Nat.le_of_ble_eq_true rfl) (Nat.le_of_ble_eq_true rfl) dL_seen_15 rfl (fun r5 s6 h => ?_)
  refine g_iastL (np := 19) B.1 19 k hk rfl (fun _ _ => rfl) 1 (by decide) (vpl (by decide)) dL_seen_18 rfl ?_
  refine g_mem (fun s7 es7 => ?_)
  replace h := h s7 es7
  refine g_aload_n (np := 20) B.1 dL_seen_19 rfl rfl ?_
  refine g_iconst (np := 21) (v := 2) B.1 dL_seen_20 (by decide) rfl ?_
  refine g_aload_n (np := 22) B.1 dL_seen_21 rfl rfl ?_
  refine gc_YLaw_191 (np := 25) B   (oX12_clock B.1.tr     _ _ _ h) (Nat.le_of_ble_eq_true rfl) (Nat.le_of_ble_eq_true rfl) (Nat.le_of_ble_eq_true rfl) (Nat.le_of_ble_eq_true rfl) (Nat.le_of_ble_eq_true rfl) dL_seen_22 rfl (fun r8 s9 h => ?_)
  refine g_iastL (np := 26) B.1 19 k hk rfl (fun _ _ => rfl) 2 (by decide) (vpl (by decide)) dL_seen_25 rfl ?_
  refine g_mem (fun s10 es10 => ?_)
  replace h := h s10 es10
  refine g_aload_n (np := 27) B.1 dL_seen_26 rfl rfl ?_
  refine g_iconst (np := 28) (v := 3) B.1 dL_seen_27 (by decide) rfl ?_
  refine g_aload_n (np := 29) B.1 dL_seen_28 rfl rfl ?_
  refine gc_YLaw_194 (np := 32) B   (oX12_machines B.1.tr     _ _ _ h) (Nat.le_of_ble_eq_true rfl) (Nat.le_of_ble_eq_true rfl) (Nat.le_of_ble_eq_true rfl) (Nat.le_of_ble_eq_true rfl) (Nat.le_of_ble_eq_true rfl) dL_seen_29 rfl (fun r11 s12 h => ?_)
  refine g_iastL (np := 33) B.1 19 k hk rfl (fun _ _ => rfl) 3 (by decide) (vpl (by decide)) dL_seen_32 rfl ?_
  refine g_mem (fun s13 es13 => ?_)
  replace h := h s13 es13
  refine g_aload_n (np := 34) B.1 dL_seen_33 rfl rfl ?_
  refine g_iconst (np := 35) (v := 4) B.1 dL_seen_34 (by decide) rfl ?_
  refine g_aload_n (np := 36) B.1 dL_seen_35 rfl rfl ?_
  refine gc_YLaw_197 (np := 39) B   (oX12_spunTotal B.1.tr     _ _ _ h) (Nat.le_of_ble_eq_true rfl) (Nat.le_of_ble_eq_true rfl) (Nat.le_of_ble_eq_true rfl) (Nat.le_of_ble_eq_true rfl) (Nat.le_of_ble_eq_true rfl) dL_seen_36 rfl (fun r14 s15 h => ?_)
  refine g_iastL (np := 40) B.1 19 k hk rfl (fun _ _ => rfl) 4 (by decide) (vpl (by decide)) dL_seen_39 rfl ?_
  refine g_mem (fun s16 es16 => ?_)
  replace h := h s16 es16
  refine g_aload_n (np := 41) B.1 dL_seen_40 rfl rfl ?_
  refine g_iconst (np := 42) (v := 5) B.1 dL_seen_41 (by decide) rfl ?_
  refine g_aload_n (np := 43) B.1 dL_seen_42 rfl rfl ?_
  refine gc_YLaw_200 (np := 46) B   (oX12_wasteTotal B.1.tr     _ _ _ h) (Nat.le_of_ble_eq_true rfl) (Nat.le_of_ble_eq_true rfl) (Nat.le_of_ble_eq_true rfl) (Nat.le_of_ble_eq_true rfl) (Nat.le_of_ble_eq_true rfl) dL_seen_43 rfl (fun r17 s18 h => ?_)
  refine g_iastL (np := 47) B.1 19 k hk rfl (fun _ _ => rfl) 5 (by decide) (vpl (by decide)) dL_seen_46 rfl ?_
  refine g_mem (fun s19 es19 => ?_)
  replace h := h s19 es19
  refine g_aload_n (np := 48) B.1 dL_seen_47 rfl rfl ?_
  refine g_bipush (np := 50) (v := 6) B.1 dL_seen_48 (by decide) rfl ?_
  refine g_aload_n (np := 51) B.1 dL_seen_50 rfl rfl ?_
  refine gc_YLaw_203 (np := 54) B   (oX12_soldTotal B.1.tr     _ _ _ h) (Nat.le_of_ble_eq_true rfl) (Nat.le_of_ble_eq_true rfl) (Nat.le_of_ble_eq_true rfl) (Nat.le_of_ble_eq_true rfl) (Nat.le_of_ble_eq_true rfl) dL_seen_51 rfl (fun r20 s21 h => ?_)
  refine g_iastL (np := 55) B.1 19 k hk rfl (fun _ _ => rfl) 6 (by decide) (vpl (by decide)) dL_seen_54 rfl ?_
  refine g_mem (fun s22 es22 => ?_)
  replace h := h s22 es22
  refine g_aload_n (np := 56) B.1 dL_seen_55 rfl rfl ?_
  refine g_bipush (np := 58) (v := 7) B.1 dL_seen_56 (by decide) rfl ?_
  refine g_aload_n (np := 59) B.1 dL_seen_58 rfl rfl ?_
  refine gc_YLaw_126 (np := 62) B   (oX12_baleCount B.1.tr     _ _ _ h) (Nat.le_of_ble_eq_true rfl) (Nat.le_of_ble_eq_true rfl) (Nat.le_of_ble_eq_true rfl) (Nat.le_of_ble_eq_true rfl) (Nat.le_of_ble_eq_true rfl) dL_seen_59 rfl (fun r23 s24 h => ?_)
  refine g_iastL (np := 63) B.1 19 k hk rfl (fun _ _ => rfl) 7 (by decide) (vpl (by decide)) dL_seen_62 rfl ?_
  refine g_mem (fun s25 es25 => ?_)
  replace h := h s25 es25
  refine g_aload_n (np := 64) B.1 dL_seen_63 rfl rfl ?_
  refine g_bipush (np := 66) (v := 8) B.1 dL_seen_64 (by decide) rfl ?_
  refine g_aload_n (np := 67) B.1 dL_seen_66 rfl rfl ?_
  refine gc_YLaw_132 (np := 70) B   (oX12_orderCount B.1.tr     _ _ _ h) (Nat.le_of_ble_eq_true rfl) (Nat.le_of_ble_eq_true rfl) (Nat.le_of_ble_eq_true rfl) (Nat.le_of_ble_eq_true rfl) (Nat.le_of_ble_eq_true rfl) dL_seen_67 rfl (fun r26 s27 h => ?_)
  refine g_iastL (np := 71) B.1 19 k hk rfl (fun _ _ => rfl) 8 (by decide) (vpl (by decide)) dL_seen_70 rfl ?_
  refine g_mem (fun s28 es28 => ?_)
  replace h := h s28 es28
  refine g_aload_n (np := 72) B.1 dL_seen_71 rfl rfl ?_
  refine g_bipush (np := 74) (v := 9) B.1 dL_seen_72 (by decide) rfl ?_
  refine g_aload_n (np := 75) B.1 dL_seen_74 rfl rfl ?_
  refine gc_YLaw_206 (np := 78) B   (oX12_pieceCount B.1.tr     _ _ _ h) (Nat.le_of_ble_eq_true rfl) (Nat.le_of_ble_eq_true rfl) (Nat.le_of_ble_eq_true rfl) (Nat.le_of_ble_eq_true rfl) (Nat.le_of_ble_eq_true rfl) dL_seen_75 rfl (fun r29 s30 h => ?_)
  refine g_iastL (np := 79) B.1 19 k hk rfl (fun _ _ => rfl) 9 (by decide) (vpl (by decide)) dL_seen_78 rfl ?_
  refine g_mem (fun s31 es31 => ?_)
  replace h := h s31 es31
  refine g_iconst (np := 80) (v := 0) B.1 dL_seen_79 (by decide) rfl ?_
  refine g_istore_n (np := 81) (lv' := [some (.ref (xad (fX K) 14 0)), some (.ref (xad (fX K) 19 k)), some (.int 0), none]) B.1 dL_seen_80 (by decide) rfl rfl rfl ?_
  obtain ⟨m75, hm_, h⟩ := h
  refine Go.lle [some (.ref (xad (fX K) 14 0)), some (.ref (xad (fX K) 19 k)), some (.int 0), none] (by simp [lle]) ?_
  refine oL_seen_81 B   hk (fun s47 h => ?_) (CM := 53) (SM := 422) (Nat.le_of_ble_eq_true rfl) (Nat.le_of_ble_eq_true rfl) m75 (by omega) (by omega) 0  s31 h
  refine g_iconst (np := 150) (v := 0) B.1 dL_seen_149 (by decide) rfl ?_
  refine g_istore_n (np := 151) (lv' := [some (.ref (xad (fX K) 14 0)), some (.ref (xad (fX K) 19 k)), some (.int 0), none]) B.1 dL_seen_150 (by decide) rfl rfl rfl ?_
  obtain ⟨m74, hm_, h⟩ := h
  refine Go.lle [some (.ref (xad (fX K) 14 0)), some (.ref (xad (fX K) 19 k)), some (.int 0), none] (by simp [lle]) ?_
  refine oL_seen_151 B   hk (fun s65 h => ?_) (CM := 105) (SM := 734) (Nat.le_of_ble_eq_true rfl) (Nat.le_of_ble_eq_true rfl) m74 (by omega) (by omega) 0  s47 h
  refine g_iconst (np := 228) (v := 0) B.1 dL_seen_227 (by decide) rfl ?_
  refine g_istore_n (np := 229) (lv' := [some (.ref (xad (fX K) 14 0)), some (.ref (xad (fX K) 19 k)), some (.int 0), none]) B.1 dL_seen_228 (by decide) rfl rfl rfl ?_
  obtain ⟨m73, hm_, h⟩ := h
  refine Go.lle [some (.ref (xad (fX K) 14 0)), some (.ref (xad (fX K) 19 k)), some (.int 0), none] (by simp [lle]) ?_
  refine oL_seen_229 B   hk (fun s72 h => ?_) (CM := 118) (SM := 812) (Nat.le_of_ble_eq_true rfl) (Nat.le_of_ble_eq_true rfl) m73 (by omega) (by omega) 0  s65 h
  refine g_aload_n (np := 255) B.1 dL_seen_254 rfl rfl ?_
  exact g_aret B rfl (Or.inr ⟨_, rfl⟩) (Or.inr ⟨_, rfl⟩) (Nat.le_of_ble_eq_true rfl) (Nat.le_of_ble_eq_true rfl) dL_seen_255 ⟨rfl, h⟩
