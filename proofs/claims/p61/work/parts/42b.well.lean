/-! THE LAW'S CHECK OF A MILL -/
theorem b_1427 : Cond.methodLink "YarnMillLaw" 185 yX12_coins ∈ lw_good := bB 1427 (by decide +kernel) (by decide +kernel)
theorem b_1428 : Cond.instanceMethod yX12_coins ∈ lw_good := bB 1428 (by decide +kernel) (by decide +kernel)
theorem b_1429 : Cond.selects "YarnMill" yX12_coins yX12_coins ∈ lw_good := bB 1429 (by decide +kernel) (by decide +kernel)
theorem b_1430 : Cond.code yX12_coins cX12_coins 1 (some .int) ∈ lw_good := bB 1430 (by decide +kernel) (by decide +kernel)
theorem b_1431 : Cond.methodLink "YarnMillLaw" 188 yX12_roving ∈ lw_good := bB 1431 (by decide +kernel) (by decide +kernel)
theorem b_1432 : Cond.instanceMethod yX12_roving ∈ lw_good := bB 1432 (by decide +kernel) (by decide +kernel)
theorem b_1433 : Cond.selects "YarnMill" yX12_roving yX12_roving ∈ lw_good := bB 1433 (by decide +kernel) (by decide +kernel)
theorem b_1434 : Cond.code yX12_roving cX12_roving 1 (some .int) ∈ lw_good := bB 1434 (by decide +kernel) (by decide +kernel)
theorem b_1439 : Cond.methodLink "YarnMillLaw" 194 yX12_machines ∈ lw_good := bB 1439 (by decide +kernel) (by decide +kernel)
theorem b_1440 : Cond.instanceMethod yX12_machines ∈ lw_good := bB 1440 (by decide +kernel) (by decide +kernel)
theorem b_1441 : Cond.selects "YarnMill" yX12_machines yX12_machines ∈ lw_good := bB 1441 (by decide +kernel) (by decide +kernel)
theorem b_1442 : Cond.code yX12_machines cX12_machines 1 (some .int) ∈ lw_good := bB 1442 (by decide +kernel) (by decide +kernel)
theorem b_1455 : Cond.methodLink "YarnMillLaw" 206 yX12_pieceCount ∈ lw_good := bB 1455 (by decide +kernel) (by decide +kernel)
theorem b_1456 : Cond.instanceMethod yX12_pieceCount ∈ lw_good := bB 1456 (by decide +kernel) (by decide +kernel)
theorem b_1457 : Cond.selects "YarnMill" yX12_pieceCount yX12_pieceCount ∈ lw_good := bB 1457 (by decide +kernel) (by decide +kernel)
theorem b_1458 : Cond.code yX12_pieceCount cX12_pieceCount 1 (some .int) ∈ lw_good := bB 1458 (by decide +kernel) (by decide +kernel)
theorem b_1471 : Cond.methodLink "YarnMillLaw" 218 yX12_lengthOf ∈ lw_good := bB 1471 (by decide +kernel) (by decide +kernel)
theorem b_1472 : Cond.instanceMethod yX12_lengthOf ∈ lw_good := bB 1472 (by decide +kernel) (by decide +kernel)
theorem b_1473 : Cond.selects "YarnMill" yX12_lengthOf yX12_lengthOf ∈ lw_good := bB 1473 (by decide +kernel) (by decide +kernel)
theorem b_1474 : Cond.code yX12_lengthOf cX12_lengthOf 2 (some .int) ∈ lw_good := bB 1474 (by decide +kernel) (by decide +kernel)
theorem b_1479 : Cond.methodLink "YarnMillLaw" 221 yX12_twistOf ∈ lw_good := bB 1479 (by decide +kernel) (by decide +kernel)
theorem b_1480 : Cond.instanceMethod yX12_twistOf ∈ lw_good := bB 1480 (by decide +kernel) (by decide +kernel)
theorem b_1481 : Cond.selects "YarnMill" yX12_twistOf yX12_twistOf ∈ lw_good := bB 1481 (by decide +kernel) (by decide +kernel)
theorem b_1482 : Cond.code yX12_twistOf cX12_twistOf 2 (some .int) ∈ lw_good := bB 1482 (by decide +kernel) (by decide +kernel)
theorem b_1483 : Cond.methodLink "YarnMillLaw" 224 yX12_canSpin ∈ lw_good := bB 1483 (by decide +kernel) (by decide +kernel)
theorem b_1484 : Cond.instanceMethod yX12_canSpin ∈ lw_good := bB 1484 (by decide +kernel) (by decide +kernel)
theorem b_1485 : Cond.selects "YarnMill" yX12_canSpin yX12_canSpin ∈ lw_good := bB 1485 (by decide +kernel) (by decide +kernel)
theorem b_1486 : Cond.code yX12_canSpin cX12_canSpin 2 (some .boolean) ∈ lw_good := bB 1486 (by decide +kernel) (by decide +kernel)
theorem b_1487 : Cond.methodLink "YarnMillLaw" 228 yX12_pieceLength ∈ lw_good := bB 1487 (by decide +kernel) (by decide +kernel)
theorem b_1488 : Cond.instanceMethod yX12_pieceLength ∈ lw_good := bB 1488 (by decide +kernel) (by decide +kernel)
theorem b_1489 : Cond.selects "YarnMill" yX12_pieceLength yX12_pieceLength ∈ lw_good := bB 1489 (by decide +kernel) (by decide +kernel)
theorem b_1490 : Cond.code yX12_pieceLength cX12_pieceLength 2 (some .int) ∈ lw_good := bB 1490 (by decide +kernel) (by decide +kernel)
theorem b_1501 : Cond.methodLink "YarnMillLaw" 231 yX12_minutesOf ∈ lw_good := bB 1501 (by decide +kernel) (by decide +kernel)
theorem b_1502 : Cond.instanceMethod yX12_minutesOf ∈ lw_good := bB 1502 (by decide +kernel) (by decide +kernel)
theorem b_1503 : Cond.selects "YarnMill" yX12_minutesOf yX12_minutesOf ∈ lw_good := bB 1503 (by decide +kernel) (by decide +kernel)
theorem b_1504 : Cond.code yX12_minutesOf cX12_minutesOf 2 (some .int) ∈ lw_good := bB 1504 (by decide +kernel) (by decide +kernel)
theorem b_1505 : Cond.methodLink "YarnMillLaw" 234 Lib.Math.max.name ∈ lw_good := bB 1505 (by decide +kernel) (by decide +kernel)
theorem b_1506 : Cond.methodLink "YarnMillLaw" 239 yX12_shortestTime ∈ lw_good := bB 1506 (by decide +kernel) (by decide +kernel)
theorem b_1507 : Cond.instanceMethod yX12_shortestTime ∈ lw_good := bB 1507 (by decide +kernel) (by decide +kernel)
theorem b_1508 : Cond.selects "YarnMill" yX12_shortestTime yX12_shortestTime ∈ lw_good := bB 1508 (by decide +kernel) (by decide +kernel)
theorem b_1509 : Cond.code yX12_shortestTime cX12_shortestTime 1 (some .int) ∈ lw_good := bB 1509 (by decide +kernel) (by decide +kernel)
theorem b_1526 : Cond.methodLink "YarnMillLaw" 242 yX12_shortestTimeBySearch ∈ lw_good := bB 1526 (by decide +kernel) (by decide +kernel)
theorem b_1527 : Cond.instanceMethod yX12_shortestTimeBySearch ∈ lw_good := bB 1527 (by decide +kernel) (by decide +kernel)
theorem b_1528 : Cond.selects "YarnMill" yX12_shortestTimeBySearch yX12_shortestTimeBySearch ∈ lw_good := bB 1528 (by decide +kernel) (by decide +kernel)
theorem b_1529 : Cond.code yX12_shortestTimeBySearch cX12_shortestTimeBySearch 1 (some .int) ∈ lw_good := bB 1529 (by decide +kernel) (by decide +kernel)
theorem b_1541 : Cond.methodLink "YarnMillLaw" 245 yX12_kinds ∈ lw_good := bB 1541 (by decide +kernel) (by decide +kernel)
theorem b_1542 : Cond.instanceMethod yX12_kinds ∈ lw_good := bB 1542 (by decide +kernel) (by decide +kernel)
theorem b_1543 : Cond.selects "YarnMill" yX12_kinds yX12_kinds ∈ lw_good := bB 1543 (by decide +kernel) (by decide +kernel)
theorem b_1544 : Cond.code yX12_kinds cX12_kinds 1 (some .int) ∈ lw_good := bB 1544 (by decide +kernel) (by decide +kernel)
theorem b_1553 : Cond.methodLink "YarnMillLaw" 248 yX12_worthOf ∈ lw_good := bB 1553 (by decide +kernel) (by decide +kernel)
theorem b_1554 : Cond.instanceMethod yX12_worthOf ∈ lw_good := bB 1554 (by decide +kernel) (by decide +kernel)
theorem b_1555 : Cond.selects "YarnMill" yX12_worthOf yX12_worthOf ∈ lw_good := bB 1555 (by decide +kernel) (by decide +kernel)
theorem b_1556 : Cond.code yX12_worthOf cX12_worthOf 2 (some .int) ∈ lw_good := bB 1556 (by decide +kernel) (by decide +kernel)
theorem b_1558 : Cond.methodLink "YarnMillLaw" 251 yL_blendValue ∈ lw_good := bB 1558 (by decide +kernel) (by decide +kernel)
theorem b_1559 : Cond.static yL_blendValue ∈ lw_good := bB 1559 (by decide +kernel) (by decide +kernel)
theorem b_1560 : Cond.codeWith yL_blendValue cL_blendValue 4 (some .int) [((0 : Nat), (6 : Nat), (7 : Nat), (15 : Nat)), ((0 : Nat), (6 : Nat), (11 : Nat), (35 : Nat))] ∈ lw_good := bB 1560 (by decide +kernel) (by decide +kernel)
theorem b_1573 : Cond.methodLink "YarnMillLaw" 253 yX12_spliceCost ∈ lw_good := bB 1573 (by decide +kernel) (by decide +kernel)
theorem b_1574 : Cond.instanceMethod yX12_spliceCost ∈ lw_good := bB 1574 (by decide +kernel) (by decide +kernel)
theorem b_1575 : Cond.selects "YarnMill" yX12_spliceCost yX12_spliceCost ∈ lw_good := bB 1575 (by decide +kernel) (by decide +kernel)
theorem b_1576 : Cond.code yX12_spliceCost cX12_spliceCost 1 (some .int) ∈ lw_good := bB 1576 (by decide +kernel) (by decide +kernel)
theorem b_1577 : Cond.methodLink "YarnMillLaw" 256 yX12_spliceCostByMemory ∈ lw_good := bB 1577 (by decide +kernel) (by decide +kernel)
theorem b_1578 : Cond.instanceMethod yX12_spliceCostByMemory ∈ lw_good := bB 1578 (by decide +kernel) (by decide +kernel)
theorem b_1579 : Cond.selects "YarnMill" yX12_spliceCostByMemory yX12_spliceCostByMemory ∈ lw_good := bB 1579 (by decide +kernel) (by decide +kernel)
theorem b_1580 : Cond.code yX12_spliceCostByMemory cX12_spliceCostByMemory 1 (some .int) ∈ lw_good := bB 1580 (by decide +kernel) (by decide +kernel)
theorem b_1588 : Cond.methodLink "YarnMillLaw" 259 yL_blendValueBySearch ∈ lw_good := bB 1588 (by decide +kernel) (by decide +kernel)
theorem b_1589 : Cond.static yL_blendValueBySearch ∈ lw_good := bB 1589 (by decide +kernel) (by decide +kernel)
theorem b_1590 : Cond.codeWith yL_blendValueBySearch cL_blendValueBySearch 4 (some .int) [((0 : Nat), (6 : Nat), (7 : Nat), (15 : Nat)), ((0 : Nat), (6 : Nat), (11 : Nat), (35 : Nat))] ∈ lw_good := bB 1590 (by decide +kernel) (by decide +kernel)
theorem b_1603 : Cond.methodLink "YarnMillLaw" 261 yX12_shelfLength ∈ lw_good := bB 1603 (by decide +kernel) (by decide +kernel)
theorem b_1604 : Cond.instanceMethod yX12_shelfLength ∈ lw_good := bB 1604 (by decide +kernel) (by decide +kernel)
theorem b_1605 : Cond.selects "YarnMill" yX12_shelfLength yX12_shelfLength ∈ lw_good := bB 1605 (by decide +kernel) (by decide +kernel)
theorem b_1606 : Cond.code yX12_shelfLength cX12_shelfLength 1 (some .int) ∈ lw_good := bB 1606 (by decide +kernel) (by decide +kernel)
theorem b_1608 : Cond.methodLink "YarnMillLaw" 264 yX12_shelfLengthByAccounts ∈ lw_good := bB 1608 (by decide +kernel) (by decide +kernel)
theorem b_1609 : Cond.instanceMethod yX12_shelfLengthByAccounts ∈ lw_good := bB 1609 (by decide +kernel) (by decide +kernel)
theorem b_1610 : Cond.selects "YarnMill" yX12_shelfLengthByAccounts yX12_shelfLengthByAccounts ∈ lw_good := bB 1610 (by decide +kernel) (by decide +kernel)
theorem b_1611 : Cond.code yX12_shelfLengthByAccounts cX12_shelfLengthByAccounts 1 (some .int) ∈ lw_good := bB 1611 (by decide +kernel) (by decide +kernel)
theorem b_1616 : Cond.methodLink "YarnMillLaw" 267 yX12_coinsByAccounts ∈ lw_good := bB 1616 (by decide +kernel) (by decide +kernel)
theorem b_1617 : Cond.instanceMethod yX12_coinsByAccounts ∈ lw_good := bB 1617 (by decide +kernel) (by decide +kernel)
theorem b_1618 : Cond.selects "YarnMill" yX12_coinsByAccounts yX12_coinsByAccounts ∈ lw_good := bB 1618 (by decide +kernel) (by decide +kernel)
theorem b_1619 : Cond.code yX12_coinsByAccounts cX12_coinsByAccounts 1 (some .int) ∈ lw_good := bB 1619 (by decide +kernel) (by decide +kernel)
theorem b_1624 : Cond.methodLink "YarnMillLaw" 270 yX12_isConsistent ∈ lw_good := bB 1624 (by decide +kernel) (by decide +kernel)
theorem b_1625 : Cond.instanceMethod yX12_isConsistent ∈ lw_good := bB 1625 (by decide +kernel) (by decide +kernel)
theorem b_1626 : Cond.selects "YarnMill" yX12_isConsistent yX12_isConsistent ∈ lw_good := bB 1626 (by decide +kernel) (by decide +kernel)
theorem b_1627 : Cond.code yX12_isConsistent cX12_isConsistent 1 (some .boolean) ∈ lw_good := bB 1627 (by decide +kernel) (by decide +kernel)
theorem gc_YLaw_206 {K : Fr} {cells slots : Nat} {σ : Mem} {cc : ByteArray} {nL pc fr lo mc ms : Nat} {ret : Option FieldType} {Qm : Option Value → Mem → Prop} {E : String → Mem → Prop} {lv : List (Option Value)} {st : List Value} (B : Bd K cc "YarnMillLaw" nL ret fr lo mc ms Qm E)    {Q : Int32 → Mem → Prop} (hM : MetG (fL K) (fX K) yX12_pieceCount cX12_pieceCount 1 (some .int) 1 20 0 0 [.ref (xad (fX K) 14 0)] σ (RI Q) E) (hfr : 2 ≤ fr) (hlo : 40 ≤ lo) (hst : (st.map fun v => v.category).sum ≤ 8) (hc : cells ≤ mc) (hs : slots ≤ ms) (hdg : decode cc pc = .ok (.invokevirtual 206, 3)) {np : Nat} (hp : pc + 3 = np) (kk : ∀ (r : Int32) (τ : Mem), Q r τ → Go K cells slots τ np lv (.int r :: st)) : Go K cells slots σ pc lv (.ref (xad (fX K) 14 0) :: st) := g_callV B 14 0 (by decide : (0 : Nat) < 1) rfl rfl rfl hM b_1458 b_1455 b_1456 b_1457 b_26 (n := 0) (by decide +kernel) rfl hfr hlo hst hdg hc hs (fun _ _ q => q) hp (fun r τ ⟨i, e, q⟩ => by subst e; exact kk i τ q)
theorem gc_YLaw_188 {K : Fr} {cells slots : Nat} {σ : Mem} {cc : ByteArray} {nL pc fr lo mc ms : Nat} {ret : Option FieldType} {Qm : Option Value → Mem → Prop} {E : String → Mem → Prop} {lv : List (Option Value)} {st : List Value} (B : Bd K cc "YarnMillLaw" nL ret fr lo mc ms Qm E)    {Q : Int32 → Mem → Prop} (hM : MetG (fL K) (fX K) yX12_roving cX12_roving 1 (some .int) 0 0 0 0 [.ref (xad (fX K) 14 0)] σ (RI Q) E) (hfr : 1 ≤ fr) (hlo : 20 ≤ lo) (hst : (st.map fun v => v.category).sum ≤ 8) (hc : cells ≤ mc) (hs : slots ≤ ms) (hdg : decode cc pc = .ok (.invokevirtual 188, 3)) {np : Nat} (hp : pc + 3 = np) (kk : ∀ (r : Int32) (τ : Mem), Q r τ → Go K cells slots τ np lv (.int r :: st)) : Go K cells slots σ pc lv (.ref (xad (fX K) 14 0) :: st) := g_callV B 14 0 (by decide : (0 : Nat) < 1) rfl rfl rfl hM b_1434 b_1431 b_1432 b_1433 b_26 (n := 0) (by decide +kernel) rfl hfr hlo hst hdg hc hs (fun _ _ q => q) hp (fun r τ ⟨i, e, q⟩ => by subst e; exact kk i τ q)
theorem gc_YLaw_185 {K : Fr} {cells slots : Nat} {σ : Mem} {cc : ByteArray} {nL pc fr lo mc ms : Nat} {ret : Option FieldType} {Qm : Option Value → Mem → Prop} {E : String → Mem → Prop} {lv : List (Option Value)} {st : List Value} (B : Bd K cc "YarnMillLaw" nL ret fr lo mc ms Qm E)    {Q : Int32 → Mem → Prop} (hM : MetG (fL K) (fX K) yX12_coins cX12_coins 1 (some .int) 0 0 0 0 [.ref (xad (fX K) 14 0)] σ (RI Q) E) (hfr : 1 ≤ fr) (hlo : 20 ≤ lo) (hst : (st.map fun v => v.category).sum ≤ 8) (hc : cells ≤ mc) (hs : slots ≤ ms) (hdg : decode cc pc = .ok (.invokevirtual 185, 3)) {np : Nat} (hp : pc + 3 = np) (kk : ∀ (r : Int32) (τ : Mem), Q r τ → Go K cells slots τ np lv (.int r :: st)) : Go K cells slots σ pc lv (.ref (xad (fX K) 14 0) :: st) := g_callV B 14 0 (by decide : (0 : Nat) < 1) rfl rfl rfl hM b_1430 b_1427 b_1428 b_1429 b_26 (n := 0) (by decide +kernel) rfl hfr hlo hst hdg hc hs (fun _ _ q => q) hp (fun r τ ⟨i, e, q⟩ => by subst e; exact kk i τ q)
theorem gc_YLaw_231 {K : Fr} {cells slots : Nat} {σ : Mem} {cc : ByteArray} {nL pc fr lo mc ms : Nat} {ret : Option FieldType} {Qm : Option Value → Mem → Prop} {E : String → Mem → Prop} {lv : List (Option Value)} {st : List Value} (B : Bd K cc "YarnMillLaw" nL ret fr lo mc ms Qm E)   {a1 : Int32} {Q : Int32 → Mem → Prop} (hM : MetG (fL K) (fX K) yX12_minutesOf cX12_minutesOf 2 (some .int) 7 104 1 6 [.ref (xad (fX K) 14 0), .int a1] σ (RI Q) E) (hfr : 8 ≤ fr) (hlo : 125 ≤ lo) (hst : (st.map fun v => v.category).sum ≤ 8) (hc : cells + 1 ≤ mc) (hs : slots + 6 ≤ ms) (hdg : decode cc pc = .ok (.invokevirtual 231, 3)) {np : Nat} (hp : pc + 3 = np) (kk : ∀ (r : Int32) (τ : Mem), Q r τ → Go K (cells + 1) (slots + 6) τ np lv (.int r :: st)) : Go K cells slots σ pc lv (.int a1 :: .ref (xad (fX K) 14 0) :: st) := g_callV B 14 0 (by decide : (0 : Nat) < 1) rfl rfl rfl hM b_1504 b_1501 b_1502 b_1503 b_26 (n := 1) (by decide +kernel) rfl hfr hlo hst hdg hc hs (fun _ _ q => q) hp (fun r τ ⟨i, e, q⟩ => by subst e; exact kk i τ q)
theorem gc_YLaw_221 {K : Fr} {cells slots : Nat} {σ : Mem} {cc : ByteArray} {nL pc fr lo mc ms : Nat} {ret : Option FieldType} {Qm : Option Value → Mem → Prop} {E : String → Mem → Prop} {lv : List (Option Value)} {st : List Value} (B : Bd K cc "YarnMillLaw" nL ret fr lo mc ms Qm E)   {a1 : Int32} {Q : Int32 → Mem → Prop} (hM : MetG (fL K) (fX K) yX12_twistOf cX12_twistOf 2 (some .int) 7 104 1 6 [.ref (xad (fX K) 14 0), .int a1] σ (RI Q) E) (hfr : 8 ≤ fr) (hlo : 125 ≤ lo) (hst : (st.map fun v => v.category).sum ≤ 8) (hc : cells + 1 ≤ mc) (hs : slots + 6 ≤ ms) (hdg : decode cc pc = .ok (.invokevirtual 221, 3)) {np : Nat} (hp : pc + 3 = np) (kk : ∀ (r : Int32) (τ : Mem), Q r τ → Go K (cells + 1) (slots + 6) τ np lv (.int r :: st)) : Go K cells slots σ pc lv (.int a1 :: .ref (xad (fX K) 14 0) :: st) := g_callV B 14 0 (by decide : (0 : Nat) < 1) rfl rfl rfl hM b_1482 b_1479 b_1480 b_1481 b_26 (n := 1) (by decide +kernel) rfl hfr hlo hst hdg hc hs (fun _ _ q => q) hp (fun r τ ⟨i, e, q⟩ => by subst e; exact kk i τ q)
theorem gc_YLaw_218 {K : Fr} {cells slots : Nat} {σ : Mem} {cc : ByteArray} {nL pc fr lo mc ms : Nat} {ret : Option FieldType} {Qm : Option Value → Mem → Prop} {E : String → Mem → Prop} {lv : List (Option Value)} {st : List Value} (B : Bd K cc "YarnMillLaw" nL ret fr lo mc ms Qm E)   {a1 : Int32} {Q : Int32 → Mem → Prop} (hM : MetG (fL K) (fX K) yX12_lengthOf cX12_lengthOf 2 (some .int) 7 104 1 6 [.ref (xad (fX K) 14 0), .int a1] σ (RI Q) E) (hfr : 8 ≤ fr) (hlo : 125 ≤ lo) (hst : (st.map fun v => v.category).sum ≤ 8) (hc : cells + 1 ≤ mc) (hs : slots + 6 ≤ ms) (hdg : decode cc pc = .ok (.invokevirtual 218, 3)) {np : Nat} (hp : pc + 3 = np) (kk : ∀ (r : Int32) (τ : Mem), Q r τ → Go K (cells + 1) (slots + 6) τ np lv (.int r :: st)) : Go K cells slots σ pc lv (.int a1 :: .ref (xad (fX K) 14 0) :: st) := g_callV B 14 0 (by decide : (0 : Nat) < 1) rfl rfl rfl hM b_1474 b_1471 b_1472 b_1473 b_26 (n := 1) (by decide +kernel) rfl hfr hlo hst hdg hc hs (fun _ _ q => q) hp (fun r τ ⟨i, e, q⟩ => by subst e; exact kk i τ q)
theorem gc_YLaw_224 {K : Fr} {cells slots : Nat} {σ : Mem} {cc : ByteArray} {nL pc fr lo mc ms : Nat} {ret : Option FieldType} {Qm : Option Value → Mem → Prop} {E : String → Mem → Prop} {lv : List (Option Value)} {st : List Value} (B : Bd K cc "YarnMillLaw" nL ret fr lo mc ms Qm E)   {a1 : Int32} {Q : Int32 → Mem → Prop} (hM : MetG (fL K) (fX K) yX12_canSpin cX12_canSpin 2 (some .boolean) 7 104 1 6 [.ref (xad (fX K) 14 0), .int a1] σ (RI Q) E) (hfr : 8 ≤ fr) (hlo : 125 ≤ lo) (hst : (st.map fun v => v.category).sum ≤ 8) (hc : cells + 1 ≤ mc) (hs : slots + 6 ≤ ms) (hdg : decode cc pc = .ok (.invokevirtual 224, 3)) {np : Nat} (hp : pc + 3 = np) (kk : ∀ (r : Int32) (τ : Mem), Q r τ → Go K (cells + 1) (slots + 6) τ np lv (.int r :: st)) : Go K cells slots σ pc lv (.int a1 :: .ref (xad (fX K) 14 0) :: st) := g_callV B 14 0 (by decide : (0 : Nat) < 1) rfl rfl rfl hM b_1486 b_1483 b_1484 b_1485 b_26 (n := 1) (by decide +kernel) rfl hfr hlo hst hdg hc hs (fun _ _ q => q) hp (fun r τ ⟨i, e, q⟩ => by subst e; exact kk i τ q)
theorem gc_YLaw_239 {K : Fr} {cells slots : Nat} {σ : Mem} {cc : ByteArray} {nL pc fr lo mc ms : Nat} {ret : Option FieldType} {Qm : Option Value → Mem → Prop} {E : String → Mem → Prop} {lv : List (Option Value)} {st : List Value} (B : Bd K cc "YarnMillLaw" nL ret fr lo mc ms Qm E)    {Q : Int32 → Mem → Prop} (hM : MetG (fL K) (fX K) yX12_shortestTime cX12_shortestTime 1 (some .int) 3 71 0 0 [.ref (xad (fX K) 14 0)] σ (RI Q) E) (hfr : 4 ≤ fr) (hlo : 91 ≤ lo) (hst : (st.map fun v => v.category).sum ≤ 8) (hc : cells ≤ mc) (hs : slots ≤ ms) (hdg : decode cc pc = .ok (.invokevirtual 239, 3)) {np : Nat} (hp : pc + 3 = np) (kk : ∀ (r : Int32) (τ : Mem), Q r τ → Go K cells slots τ np lv (.int r :: st)) : Go K cells slots σ pc lv (.ref (xad (fX K) 14 0) :: st) := g_callV B 14 0 (by decide : (0 : Nat) < 1) rfl rfl rfl hM b_1509 b_1506 b_1507 b_1508 b_26 (n := 0) (by decide +kernel) rfl hfr hlo hst hdg hc hs (fun _ _ q => q) hp (fun r τ ⟨i, e, q⟩ => by subst e; exact kk i τ q)
theorem gc_YLaw_242 {K : Fr} {cells slots : Nat} {σ : Mem} {cc : ByteArray} {nL pc fr lo mc ms : Nat} {ret : Option FieldType} {Qm : Option Value → Mem → Prop} {E : String → Mem → Prop} {lv : List (Option Value)} {st : List Value} (B : Bd K cc "YarnMillLaw" nL ret fr lo mc ms Qm E)    {Q : Int32 → Mem → Prop} (hM : MetG (fL K) (fX K) yX12_shortestTimeBySearch cX12_shortestTimeBySearch 1 (some .int) 13 331 0 0 [.ref (xad (fX K) 14 0)] σ (RI Q) E) (hfr : 14 ≤ fr) (hlo : 351 ≤ lo) (hst : (st.map fun v => v.category).sum ≤ 8) (hc : cells ≤ mc) (hs : slots ≤ ms) (hdg : decode cc pc = .ok (.invokevirtual 242, 3)) {np : Nat} (hp : pc + 3 = np) (kk : ∀ (r : Int32) (τ : Mem), Q r τ → Go K cells slots τ np lv (.int r :: st)) : Go K cells slots σ pc lv (.ref (xad (fX K) 14 0) :: st) := g_callV B 14 0 (by decide : (0 : Nat) < 1) rfl rfl rfl hM b_1529 b_1526 b_1527 b_1528 b_26 (n := 0) (by decide +kernel) rfl hfr hlo hst hdg hc hs (fun _ _ q => q) hp (fun r τ ⟨i, e, q⟩ => by subst e; exact kk i τ q)
theorem gc_YLaw_194 {K : Fr} {cells slots : Nat} {σ : Mem} {cc : ByteArray} {nL pc fr lo mc ms : Nat} {ret : Option FieldType} {Qm : Option Value → Mem → Prop} {E : String → Mem → Prop} {lv : List (Option Value)} {st : List Value} (B : Bd K cc "YarnMillLaw" nL ret fr lo mc ms Qm E)    {Q : Int32 → Mem → Prop} (hM : MetG (fL K) (fX K) yX12_machines cX12_machines 1 (some .int) 0 0 0 0 [.ref (xad (fX K) 14 0)] σ (RI Q) E) (hfr : 1 ≤ fr) (hlo : 20 ≤ lo) (hst : (st.map fun v => v.category).sum ≤ 8) (hc : cells ≤ mc) (hs : slots ≤ ms) (hdg : decode cc pc = .ok (.invokevirtual 194, 3)) {np : Nat} (hp : pc + 3 = np) (kk : ∀ (r : Int32) (τ : Mem), Q r τ → Go K cells slots τ np lv (.int r :: st)) : Go K cells slots σ pc lv (.ref (xad (fX K) 14 0) :: st) := g_callV B 14 0 (by decide : (0 : Nat) < 1) rfl rfl rfl hM b_1442 b_1439 b_1440 b_1441 b_26 (n := 0) (by decide +kernel) rfl hfr hlo hst hdg hc hs (fun _ _ q => q) hp (fun r τ ⟨i, e, q⟩ => by subst e; exact kk i τ q)
theorem gc_YLaw_245 {K : Fr} {cells slots : Nat} {σ : Mem} {cc : ByteArray} {nL pc fr lo mc ms : Nat} {ret : Option FieldType} {Qm : Option Value → Mem → Prop} {E : String → Mem → Prop} {lv : List (Option Value)} {st : List Value} (B : Bd K cc "YarnMillLaw" nL ret fr lo mc ms Qm E)    {Q : Int32 → Mem → Prop} (hM : MetG (fL K) (fX K) yX12_kinds cX12_kinds 1 (some .int) 3 65 0 0 [.ref (xad (fX K) 14 0)] σ (RI Q) E) (hfr : 4 ≤ fr) (hlo : 85 ≤ lo) (hst : (st.map fun v => v.category).sum ≤ 8) (hc : cells ≤ mc) (hs : slots ≤ ms) (hdg : decode cc pc = .ok (.invokevirtual 245, 3)) {np : Nat} (hp : pc + 3 = np) (kk : ∀ (r : Int32) (τ : Mem), Q r τ → Go K cells slots τ np lv (.int r :: st)) : Go K cells slots σ pc lv (.ref (xad (fX K) 14 0) :: st) := g_callV B 14 0 (by decide : (0 : Nat) < 1) rfl rfl rfl hM b_1544 b_1541 b_1542 b_1543 b_26 (n := 0) (by decide +kernel) rfl hfr hlo hst hdg hc hs (fun _ _ q => q) hp (fun r τ ⟨i, e, q⟩ => by subst e; exact kk i τ q)
theorem gc_YLaw_228 {K : Fr} {cells slots : Nat} {σ : Mem} {cc : ByteArray} {nL pc fr lo mc ms : Nat} {ret : Option FieldType} {Qm : Option Value → Mem → Prop} {E : String → Mem → Prop} {lv : List (Option Value)} {st : List Value} (B : Bd K cc "YarnMillLaw" nL ret fr lo mc ms Qm E)   {a1 : Int32} {Q : Int32 → Mem → Prop} (hM : MetG (fL K) (fX K) yX12_pieceLength cX12_pieceLength 2 (some .int) 7 103 1 6 [.ref (xad (fX K) 14 0), .int a1] σ (RI Q) E) (hfr : 8 ≤ fr) (hlo : 124 ≤ lo) (hst : (st.map fun v => v.category).sum ≤ 8) (hc : cells + 1 ≤ mc) (hs : slots + 6 ≤ ms) (hdg : decode cc pc = .ok (.invokevirtual 228, 3)) {np : Nat} (hp : pc + 3 = np) (kk : ∀ (r : Int32) (τ : Mem), Q r τ → Go K (cells + 1) (slots + 6) τ np lv (.int r :: st)) : Go K cells slots σ pc lv (.int a1 :: .ref (xad (fX K) 14 0) :: st) := g_callV B 14 0 (by decide : (0 : Nat) < 1) rfl rfl rfl hM b_1490 b_1487 b_1488 b_1489 b_26 (n := 1) (by decide +kernel) rfl hfr hlo hst hdg hc hs (fun _ _ q => q) hp (fun r τ ⟨i, e, q⟩ => by subst e; exact kk i τ q)
theorem gc_YLaw_248 {K : Fr} {cells slots : Nat} {σ : Mem} {cc : ByteArray} {nL pc fr lo mc ms : Nat} {ret : Option FieldType} {Qm : Option Value → Mem → Prop} {E : String → Mem → Prop} {lv : List (Option Value)} {st : List Value} (B : Bd K cc "YarnMillLaw" nL ret fr lo mc ms Qm E)   {a1 : Int32} {Q : Int32 → Mem → Prop} (hM : MetG (fL K) (fX K) yX12_worthOf cX12_worthOf 2 (some .int) 7 103 1 6 [.ref (xad (fX K) 14 0), .int a1] σ (RI Q) E) (hfr : 8 ≤ fr) (hlo : 124 ≤ lo) (hst : (st.map fun v => v.category).sum ≤ 8) (hc : cells + 1 ≤ mc) (hs : slots + 6 ≤ ms) (hdg : decode cc pc = .ok (.invokevirtual 248, 3)) {np : Nat} (hp : pc + 3 = np) (kk : ∀ (r : Int32) (τ : Mem), Q r τ → Go K (cells + 1) (slots + 6) τ np lv (.int r :: st)) : Go K cells slots σ pc lv (.int a1 :: .ref (xad (fX K) 14 0) :: st) := g_callV B 14 0 (by decide : (0 : Nat) < 1) rfl rfl rfl hM b_1556 b_1553 b_1554 b_1555 b_26 (n := 1) (by decide +kernel) rfl hfr hlo hst hdg hc hs (fun _ _ q => q) hp (fun r τ ⟨i, e, q⟩ => by subst e; exact kk i τ q)
theorem gc_YLaw_251 {K : Fr} {cells slots : Nat} {σ : Mem} {cc : ByteArray} {nL pc fr lo mc ms : Nat} {ret : Option FieldType} {Qm : Option Value → Mem → Prop} {E : String → Mem → Prop} {lv : List (Option Value)} {st : List Value} (B : Bd K cc "YarnMillLaw" nL ret fr lo mc ms Qm E)   {a2 : Int32} {a3 : Int32} {Q : Int32 → Mem → Prop} (hM : MetH (fL K) (fX K) yL_blendValue cL_blendValue 4 [(0, 6, 7, 15), (0, 6, 11, 35)] 8 125 2 12 [.ref (xad (fX K) 14 0), .int a2, .int a3] σ (RI Q)) (hfr : 9 ≤ fr) (hlo : 148 ≤ lo) (hst : (st.map fun v => v.category).sum ≤ 8) (hc : cells + 2 ≤ mc) (hs : slots + 12 ≤ ms) (hdg : decode cc pc = .ok (.invokestatic 251, 3)) {np : Nat} (hp : pc + 3 = np) (kk : ∀ (r : Int32) (τ : Mem), Q r τ → Go K (cells + 2) (slots + 12) τ np lv (.int r :: st)) : Go K cells slots σ pc lv (.int a3 :: .int a2 :: .ref (xad (fX K) 14 0) :: st) := g_callSH B (n := 3) hM b_1560 b_1558 b_1559 b_25 (by decide +kernel) rfl hfr hlo hst hdg hc hs hp (fun r τ ⟨i, e, q⟩ => by subst e; exact kk i τ q)
theorem gc_YLaw_253 {K : Fr} {cells slots : Nat} {σ : Mem} {cc : ByteArray} {nL pc fr lo mc ms : Nat} {ret : Option FieldType} {Qm : Option Value → Mem → Prop} {E : String → Mem → Prop} {lv : List (Option Value)} {st : List Value} (B : Bd K cc "YarnMillLaw" nL ret fr lo mc ms Qm E)    {Q : Int32 → Mem → Prop} (hM : MetG (fL K) (fX K) yX12_spliceCost cX12_spliceCost 1 (some .int) 3 70 0 0 [.ref (xad (fX K) 14 0)] σ (RI Q) E) (hfr : 4 ≤ fr) (hlo : 90 ≤ lo) (hst : (st.map fun v => v.category).sum ≤ 8) (hc : cells ≤ mc) (hs : slots ≤ ms) (hdg : decode cc pc = .ok (.invokevirtual 253, 3)) {np : Nat} (hp : pc + 3 = np) (kk : ∀ (r : Int32) (τ : Mem), Q r τ → Go K cells slots τ np lv (.int r :: st)) : Go K cells slots σ pc lv (.ref (xad (fX K) 14 0) :: st) := g_callV B 14 0 (by decide : (0 : Nat) < 1) rfl rfl rfl hM b_1576 b_1573 b_1574 b_1575 b_26 (n := 0) (by decide +kernel) rfl hfr hlo hst hdg hc hs (fun _ _ q => q) hp (fun r τ ⟨i, e, q⟩ => by subst e; exact kk i τ q)
theorem gc_YLaw_256 {K : Fr} {cells slots : Nat} {σ : Mem} {cc : ByteArray} {nL pc fr lo mc ms : Nat} {ret : Option FieldType} {Qm : Option Value → Mem → Prop} {E : String → Mem → Prop} {lv : List (Option Value)} {st : List Value} (B : Bd K cc "YarnMillLaw" nL ret fr lo mc ms Qm E)    {Q : Int32 → Mem → Prop} (hM : MetG (fL K) (fX K) yX12_spliceCostByMemory cX12_spliceCostByMemory 1 (some .int) 16 422 0 0 [.ref (xad (fX K) 14 0)] σ (RI Q) E) (hfr : 17 ≤ fr) (hlo : 442 ≤ lo) (hst : (st.map fun v => v.category).sum ≤ 8) (hc : cells ≤ mc) (hs : slots ≤ ms) (hdg : decode cc pc = .ok (.invokevirtual 256, 3)) {np : Nat} (hp : pc + 3 = np) (kk : ∀ (r : Int32) (τ : Mem), Q r τ → Go K cells slots τ np lv (.int r :: st)) : Go K cells slots σ pc lv (.ref (xad (fX K) 14 0) :: st) := g_callV B 14 0 (by decide : (0 : Nat) < 1) rfl rfl rfl hM b_1580 b_1577 b_1578 b_1579 b_26 (n := 0) (by decide +kernel) rfl hfr hlo hst hdg hc hs (fun _ _ q => q) hp (fun r τ ⟨i, e, q⟩ => by subst e; exact kk i τ q)
theorem gc_YLaw_259 {K : Fr} {cells slots : Nat} {σ : Mem} {cc : ByteArray} {nL pc fr lo mc ms : Nat} {ret : Option FieldType} {Qm : Option Value → Mem → Prop} {E : String → Mem → Prop} {lv : List (Option Value)} {st : List Value} (B : Bd K cc "YarnMillLaw" nL ret fr lo mc ms Qm E)   {a2 : Int32} {a3 : Int32} {Q : Int32 → Mem → Prop} (hM : MetH (fL K) (fX K) yL_blendValueBySearch cL_blendValueBySearch 4 [(0, 6, 7, 15), (0, 6, 11, 35)] 16 404 2 12 [.ref (xad (fX K) 14 0), .int a2, .int a3] σ (RI Q)) (hfr : 17 ≤ fr) (hlo : 427 ≤ lo) (hst : (st.map fun v => v.category).sum ≤ 8) (hc : cells + 2 ≤ mc) (hs : slots + 12 ≤ ms) (hdg : decode cc pc = .ok (.invokestatic 259, 3)) {np : Nat} (hp : pc + 3 = np) (kk : ∀ (r : Int32) (τ : Mem), Q r τ → Go K (cells + 2) (slots + 12) τ np lv (.int r :: st)) : Go K cells slots σ pc lv (.int a3 :: .int a2 :: .ref (xad (fX K) 14 0) :: st) := g_callSH B (n := 3) hM b_1590 b_1588 b_1589 b_25 (by decide +kernel) rfl hfr hlo hst hdg hc hs hp (fun r τ ⟨i, e, q⟩ => by subst e; exact kk i τ q)
theorem gc_YLaw_261 {K : Fr} {cells slots : Nat} {σ : Mem} {cc : ByteArray} {nL pc fr lo mc ms : Nat} {ret : Option FieldType} {Qm : Option Value → Mem → Prop} {E : String → Mem → Prop} {lv : List (Option Value)} {st : List Value} (B : Bd K cc "YarnMillLaw" nL ret fr lo mc ms Qm E)    {Q : Int32 → Mem → Prop} (hM : MetG (fL K) (fX K) yX12_shelfLength cX12_shelfLength 1 (some .int) 1 22 0 0 [.ref (xad (fX K) 14 0)] σ (RI Q) E) (hfr : 2 ≤ fr) (hlo : 42 ≤ lo) (hst : (st.map fun v => v.category).sum ≤ 8) (hc : cells ≤ mc) (hs : slots ≤ ms) (hdg : decode cc pc = .ok (.invokevirtual 261, 3)) {np : Nat} (hp : pc + 3 = np) (kk : ∀ (r : Int32) (τ : Mem), Q r τ → Go K cells slots τ np lv (.int r :: st)) : Go K cells slots σ pc lv (.ref (xad (fX K) 14 0) :: st) := g_callV B 14 0 (by decide : (0 : Nat) < 1) rfl rfl rfl hM b_1606 b_1603 b_1604 b_1605 b_26 (n := 0) (by decide +kernel) rfl hfr hlo hst hdg hc hs (fun _ _ q => q) hp (fun r τ ⟨i, e, q⟩ => by subst e; exact kk i τ q)
theorem gc_YLaw_264 {K : Fr} {cells slots : Nat} {σ : Mem} {cc : ByteArray} {nL pc fr lo mc ms : Nat} {ret : Option FieldType} {Qm : Option Value → Mem → Prop} {E : String → Mem → Prop} {lv : List (Option Value)} {st : List Value} (B : Bd K cc "YarnMillLaw" nL ret fr lo mc ms Qm E)    {Q : Int32 → Mem → Prop} (hM : MetG (fL K) (fX K) yX12_shelfLengthByAccounts cX12_shelfLengthByAccounts 1 (some .int) 1 20 0 0 [.ref (xad (fX K) 14 0)] σ (RI Q) E) (hfr : 2 ≤ fr) (hlo : 40 ≤ lo) (hst : (st.map fun v => v.category).sum ≤ 8) (hc : cells ≤ mc) (hs : slots ≤ ms) (hdg : decode cc pc = .ok (.invokevirtual 264, 3)) {np : Nat} (hp : pc + 3 = np) (kk : ∀ (r : Int32) (τ : Mem), Q r τ → Go K cells slots τ np lv (.int r :: st)) : Go K cells slots σ pc lv (.ref (xad (fX K) 14 0) :: st) := g_callV B 14 0 (by decide : (0 : Nat) < 1) rfl rfl rfl hM b_1611 b_1608 b_1609 b_1610 b_26 (n := 0) (by decide +kernel) rfl hfr hlo hst hdg hc hs (fun _ _ q => q) hp (fun r τ ⟨i, e, q⟩ => by subst e; exact kk i τ q)
theorem gc_YLaw_267 {K : Fr} {cells slots : Nat} {σ : Mem} {cc : ByteArray} {nL pc fr lo mc ms : Nat} {ret : Option FieldType} {Qm : Option Value → Mem → Prop} {E : String → Mem → Prop} {lv : List (Option Value)} {st : List Value} (B : Bd K cc "YarnMillLaw" nL ret fr lo mc ms Qm E)    {Q : Int32 → Mem → Prop} (hM : MetG (fL K) (fX K) yX12_coinsByAccounts cX12_coinsByAccounts 1 (some .int) 1 20 0 0 [.ref (xad (fX K) 14 0)] σ (RI Q) E) (hfr : 2 ≤ fr) (hlo : 40 ≤ lo) (hst : (st.map fun v => v.category).sum ≤ 8) (hc : cells ≤ mc) (hs : slots ≤ ms) (hdg : decode cc pc = .ok (.invokevirtual 267, 3)) {np : Nat} (hp : pc + 3 = np) (kk : ∀ (r : Int32) (τ : Mem), Q r τ → Go K cells slots τ np lv (.int r :: st)) : Go K cells slots σ pc lv (.ref (xad (fX K) 14 0) :: st) := g_callV B 14 0 (by decide : (0 : Nat) < 1) rfl rfl rfl hM b_1619 b_1616 b_1617 b_1618 b_26 (n := 0) (by decide +kernel) rfl hfr hlo hst hdg hc hs (fun _ _ q => q) hp (fun r τ ⟨i, e, q⟩ => by subst e; exact kk i τ q)
theorem gc_YLaw_270 {K : Fr} {cells slots : Nat} {σ : Mem} {cc : ByteArray} {nL pc fr lo mc ms : Nat} {ret : Option FieldType} {Qm : Option Value → Mem → Prop} {E : String → Mem → Prop} {lv : List (Option Value)} {st : List Value} (B : Bd K cc "YarnMillLaw" nL ret fr lo mc ms Qm E)    {Q : Int32 → Mem → Prop} (hM : MetG (fL K) (fX K) yX12_isConsistent cX12_isConsistent 1 (some .boolean) 16 422 0 0 [.ref (xad (fX K) 14 0)] σ (RI Q) E) (hfr : 17 ≤ fr) (hlo : 442 ≤ lo) (hst : (st.map fun v => v.category).sum ≤ 8) (hc : cells ≤ mc) (hs : slots ≤ ms) (hdg : decode cc pc = .ok (.invokevirtual 270, 3)) {np : Nat} (hp : pc + 3 = np) (kk : ∀ (r : Int32) (τ : Mem), Q r τ → Go K cells slots τ np lv (.int r :: st)) : Go K cells slots σ pc lv (.ref (xad (fX K) 14 0) :: st) := g_callV B 14 0 (by decide : (0 : Nat) < 1) rfl rfl rfl hM b_1627 b_1624 b_1625 b_1626 b_26 (n := 0) (by decide +kernel) rfl hfr hlo hst hdg hc hs (fun _ _ q => q) hp (fun r τ ⟨i, e, q⟩ => by subst e; exact kk i τ q)
def wL_isWell_66   (Q : Int32 → Mem → Prop) (E : String → Mem → Prop)  (X94 : Mem → Prop) (X102 : Int32 → Int32 → Int32 → Int32 → Mem → Prop) : Nat → Int32 → Int32 → Int32 → Int32 → Int32 → Int32 → Mem → Prop
  | 0, _, _, _, _, _, _, _ => False
  | n66 + 1, v1, v2, v3, v4, v5, v6, s0 => ((v3 ≤ v6 → X102 v1 v2 v4 v5 s0) ∧ (¬ v3 ≤ v6 → ((v6 ≤ 0 → ∀ v6_13 : Int32, v6_13 = (v6 + 1) → wL_isWell_66   Q E X94 X102 n66 v1 v2 v3 v4 v5 v6_13 s0) ∧ (¬ v6 ≤ 0 → wX12_baleAt  (v6 - 1) s0 (fun (r14 : Int32) (s15 : Mem) => wX12_baleAt  v6 s15 (fun (r16 : Int32) (s17 : Mem) => ((r14 < r16 → ∀ v6_18 : Int32, v6_18 = (v6 + 1) → wL_isWell_66   Q E X94 X102 n66 v1 v2 v3 v4 v5 v6_18 s17) ∧ (¬ r14 < r16 → X94  s17))) E) E))))
def wL_isWell_111   (Q : Int32 → Mem → Prop) (E : String → Mem → Prop)  (X235 : Mem → Prop) (X243 : Int32 → Int32 → Int32 → Int32 → Int32 → Int32 → Mem → Prop) : Nat → Int32 → Int32 → Int32 → Int32 → Int32 → Int32 → Int32 → Mem → Prop
  | 0, _, _, _, _, _, _, _, _ => False
  | n111 + 1, v1, v2, v4, v5, v6, v7, v8, s0 => ((v4 ≤ v8 → X243 v1 v2 v4 v5 v6 v7 s0) ∧ (¬ v4 ≤ v8 → wX12_orderAt  v8 s0 (fun (r25 : Int32) (s26 : Mem) => wX12_minutesOf  r25 s26 (fun (r27 : Int32) (s28 : Mem) => ∀ v6_29 : Int32, v6_29 = (v6 + r27) → wX12_minutesOf  r25 s28 (fun (r30 : Int32) (s31 : Mem) => ∀ v7_32 : Int32, v7_32 = (if v7 < r30 then r30 else v7) → wX12_twistOf  r25 s31 (fun (r33 : Int32) (s34 : Mem) => ∀ v10_35 : Int32, v10_35 = (3 + r33) → wX12_lengthOf  r25 s34 (fun (r36 : Int32) (s37 : Mem) => (¬ v10_35 = 0) ∧ ∀ v11_38 : Int32, v11_38 = (((r36 + v10_35) - 1) / v10_35) → wX12_minutesOf  r25 s37 (fun (r39 : Int32) (s40 : Mem) => wX12_lengthOf  r25 s40 (fun (r41 : Int32) (s42 : Mem) => wX12_twistOf  r25 s42 (fun (r43 : Int32) (s44 : Mem) => ((¬ r39 = r41 * r43 → X235  s44) ∧ (r39 = r41 * r43 → wX12_canSpin  r25 s44 (fun (r45 : Int32) (s46 : Mem) => wX12_roving   s46 (fun (r47 : Int32) (s48 : Mem) => wX12_lengthOf  r25 s48 (fun (r49 : Int32) (s50 : Mem) => ((r47 < r49 → ((r45 = 0 → ∀ v8_51 : Int32, v8_51 = (v8 + 1) → wL_isWell_111   Q E X235 X243 n111 v1 v2 v4 v5 v6_29 v7_32 v8_51 s50) ∧ (¬ r45 = 0 → X235  s50))) ∧ (¬ r47 < r49 → ((12 < v5 + v11_38 → ((r45 = 0 → ∀ v8_52 : Int32, v8_52 = (v8 + 1) → wL_isWell_111   Q E X235 X243 n111 v1 v2 v4 v5 v6_29 v7_32 v8_52 s50) ∧ (¬ r45 = 0 → X235  s50))) ∧ (¬ 12 < v5 + v11_38 → ((r45 = 1 → ∀ v8_53 : Int32, v8_53 = (v8 + 1) → wL_isWell_111   Q E X235 X243 n111 v1 v2 v4 v5 v6_29 v7_32 v8_53 s50) ∧ (¬ r45 = 1 → X235  s50))))))) E) E) E))) E) E) E) E) E) E) E) E))
def wL_isWell_316   (Q : Int32 → Mem → Prop) (E : String → Mem → Prop)  (X368 : Mem → Prop) (X376 : Int32 → Int32 → Int32 → Int32 → Mem → Prop) : Nat → Int32 → Int32 → Int32 → Int32 → Int32 → Mem → Prop
  | 0, _, _, _, _, _, _ => False
  | n316 + 1, v1, v2, v5, v9, v10, s0 => ((v5 ≤ v10 → X376 v1 v2 v5 v9 s0) ∧ (¬ v5 ≤ v10 → wX12_pieceLength  v10 s0 (fun (r72 : Int32) (s73 : Mem) => ∀ v9_74 : Int32, v9_74 = (v9 + r72) → ((r72 < 1 → X368  s73) ∧ (¬ r72 < 1 → wX12_worthOf  v10 s73 (fun (r75 : Int32) (s76 : Mem) => ((r72 < 10 → ((r75 = 2 * r72 → ∀ v10_77 : Int32, v10_77 = (v10 + 1) → wL_isWell_316   Q E X368 X376 n316 v1 v2 v5 v9_74 v10_77 s76) ∧ (¬ r75 = 2 * r72 → X368  s76))) ∧ (¬ r72 < 10 → ((r75 = 5 * r72 → ∀ v10_78 : Int32, v10_78 = (v10 + 1) → wL_isWell_316   Q E X368 X376 n316 v1 v2 v5 v9_74 v10_78 s76) ∧ (¬ r75 = 5 * r72 → X368  s76))))) E))) E))
def wL_isWell  (a2 : Int32) (a3 : Int32) (s0 : Mem) (Q : Int32 → Mem → Prop) (E : String → Mem → Prop) : Prop := wX12_baleCount   s0 (fun (r1 : Int32) (s2 : Mem) => wX12_orderCount   s2 (fun (r3 : Int32) (s4 : Mem) => wX12_pieceCount   s4 (fun (r5 : Int32) (s6 : Mem) => ((10 < r1 → Q 0 s6) ∧ (¬ 10 < r1 → ((8 < r3 → Q 0 s6) ∧ (¬ 8 < r3 → ((12 < r5 → Q 0 s6) ∧ (¬ 12 < r5 → wX12_roving   s6 (fun (r7 : Int32) (s8 : Mem) => ((r7 < 0 → Q 0 s8) ∧ (¬ r7 < 0 → wX12_roving   s8 (fun (r9 : Int32) (s10 : Mem) => ((999 < r9 → Q 0 s10) ∧ (¬ 999 < r9 → wX12_coins   s10 (fun (r11 : Int32) (s12 : Mem) => ((0 ≤ r11 → ∃ m160 : Nat, m160 ≤ 13 ∧ wL_isWell_66   Q E (fun (s19 : Mem) => Q 0 s19) (fun (x1_20 : Int32) (x2_21 : Int32) (x4_22 : Int32) (x5_23 : Int32) (s24 : Mem) => ∃ m159 : Nat, m159 ≤ 13 ∧ wL_isWell_111   Q E (fun (s54 : Mem) => Q 0 s54) (fun (x1_55 : Int32) (x2_56 : Int32) (x4_57 : Int32) (x5_58 : Int32) (x6_59 : Int32) (x7_60 : Int32) (s61 : Mem) => wX12_shortestTime   s61 (fun (r62 : Int32) (s63 : Mem) => wX12_shortestTimeBySearch   s63 (fun (r64 : Int32) (s65 : Mem) => ((¬ r62 = r64 → Q 0 s65) ∧ (r62 = r64 → ((r62 < x7_60 → Q 0 s65) ∧ (¬ r62 < x7_60 → wX12_machines   s65 (fun (r66 : Int32) (s67 : Mem) => ((r62 * r66 < x6_59 → Q 0 s67) ∧ (¬ r62 * r66 < x6_59 → ((x6_59 < r62 → Q 0 s67) ∧ (¬ x6_59 < r62 → wX12_machines   s67 (fun (r68 : Int32) (s69 : Mem) => ((¬ r68 = 1 → wX12_kinds   s69 (fun (r70 : Int32) (s71 : Mem) => ((r70 ≤ x4_57 → ∃ m117 : Nat, m117 ≤ 13 ∧ wL_isWell_316   Q E (fun (s79 : Mem) => Q 0 s79) (fun (x1_80 : Int32) (x2_81 : Int32) (x5_82 : Int32) (x9_83 : Int32) (s84 : Mem) => wL_blendValue  x1_80 x2_81 s84 (fun (r85 : Int32) (s86 : Mem) => wX12_spliceCost   s86 (fun (r87 : Int32) (s88 : Mem) => wX12_spliceCostByMemory   s88 (fun (r89 : Int32) (s90 : Mem) => ((¬ r87 = r89 → Q 0 s90) ∧ (r87 = r89 → ((1 < x5_82 → wL_blendValueBySearch  x1_80 x2_81 s90 (fun (r91 : Int32) (s92 : Mem) => ((¬ r85 = r91 → Q 0 s92) ∧ (r85 = r91 → wX12_shelfLength   s92 (fun (r93 : Int32) (s94 : Mem) => ((¬ x9_83 = r93 → Q 0 s94) ∧ (x9_83 = r93 → wX12_shelfLengthByAccounts   s94 (fun (r95 : Int32) (s96 : Mem) => ((¬ x9_83 = r95 → Q 0 s96) ∧ (x9_83 = r95 → wX12_coins   s96 (fun (r97 : Int32) (s98 : Mem) => wX12_coinsByAccounts   s98 (fun (r99 : Int32) (s100 : Mem) => ((¬ r97 = r99 → Q 0 s100) ∧ (r97 = r99 → wX12_isConsistent   s100 (fun (r101 : Int32) (s102 : Mem) => ((r101 = 0 → Q 0 s102) ∧ (¬ r101 = 0 → Q 1 s102))) E))) E) E))) E))) E))) E) ∧ (¬ 1 < x5_82 → wX12_spliceCost   s90 (fun (r103 : Int32) (s104 : Mem) => ((¬ r103 = 0 → Q 0 s104) ∧ (r103 = 0 → wL_blendValueBySearch  x1_80 x2_81 s104 (fun (r105 : Int32) (s106 : Mem) => ((¬ r85 = r105 → Q 0 s106) ∧ (r85 = r105 → wX12_shelfLength   s106 (fun (r107 : Int32) (s108 : Mem) => ((¬ x9_83 = r107 → Q 0 s108) ∧ (x9_83 = r107 → wX12_shelfLengthByAccounts   s108 (fun (r109 : Int32) (s110 : Mem) => ((¬ x9_83 = r109 → Q 0 s110) ∧ (x9_83 = r109 → wX12_coins   s110 (fun (r111 : Int32) (s112 : Mem) => wX12_coinsByAccounts   s112 (fun (r113 : Int32) (s114 : Mem) => ((¬ r111 = r113 → Q 0 s114) ∧ (r111 = r113 → wX12_isConsistent   s114 (fun (r115 : Int32) (s116 : Mem) => ((r115 = 0 → Q 0 s116) ∧ (¬ r115 = 0 → Q 1 s116))) E))) E) E))) E))) E))) E))) E))))) E) E) E) m117 x1_55 x2_56 x5_58 0 0  s71) ∧ (¬ r70 ≤ x4_57 → Q 0 s71))) E) ∧ (r68 = 1 → ((¬ r62 = x6_59 → Q 0 s69) ∧ (r62 = x6_59 → wX12_kinds   s69 (fun (r118 : Int32) (s119 : Mem) => ((r118 ≤ x4_57 → ∃ m158 : Nat, m158 ≤ 13 ∧ wL_isWell_316   Q E (fun (s120 : Mem) => Q 0 s120) (fun (x1_121 : Int32) (x2_122 : Int32) (x5_123 : Int32) (x9_124 : Int32) (s125 : Mem) => wL_blendValue  x1_121 x2_122 s125 (fun (r126 : Int32) (s127 : Mem) => wX12_spliceCost   s127 (fun (r128 : Int32) (s129 : Mem) => wX12_spliceCostByMemory   s129 (fun (r130 : Int32) (s131 : Mem) => ((¬ r128 = r130 → Q 0 s131) ∧ (r128 = r130 → ((1 < x5_123 → wL_blendValueBySearch  x1_121 x2_122 s131 (fun (r132 : Int32) (s133 : Mem) => ((¬ r126 = r132 → Q 0 s133) ∧ (r126 = r132 → wX12_shelfLength   s133 (fun (r134 : Int32) (s135 : Mem) => ((¬ x9_124 = r134 → Q 0 s135) ∧ (x9_124 = r134 → wX12_shelfLengthByAccounts   s135 (fun (r136 : Int32) (s137 : Mem) => ((¬ x9_124 = r136 → Q 0 s137) ∧ (x9_124 = r136 → wX12_coins   s137 (fun (r138 : Int32) (s139 : Mem) => wX12_coinsByAccounts   s139 (fun (r140 : Int32) (s141 : Mem) => ((¬ r138 = r140 → Q 0 s141) ∧ (r138 = r140 → wX12_isConsistent   s141 (fun (r142 : Int32) (s143 : Mem) => ((r142 = 0 → Q 0 s143) ∧ (¬ r142 = 0 → Q 1 s143))) E))) E) E))) E))) E))) E) ∧ (¬ 1 < x5_123 → wX12_spliceCost   s131 (fun (r144 : Int32) (s145 : Mem) => ((¬ r144 = 0 → Q 0 s145) ∧ (r144 = 0 → wL_blendValueBySearch  x1_121 x2_122 s145 (fun (r146 : Int32) (s147 : Mem) => ((¬ r126 = r146 → Q 0 s147) ∧ (r126 = r146 → wX12_shelfLength   s147 (fun (r148 : Int32) (s149 : Mem) => ((¬ x9_124 = r148 → Q 0 s149) ∧ (x9_124 = r148 → wX12_shelfLengthByAccounts   s149 (fun (r150 : Int32) (s151 : Mem) => ((¬ x9_124 = r150 → Q 0 s151) ∧ (x9_124 = r150 → wX12_coins   s151 (fun (r152 : Int32) (s153 : Mem) => wX12_coinsByAccounts   s153 (fun (r154 : Int32) (s155 : Mem) => ((¬ r152 = r154 → Q 0 s155) ∧ (r152 = r154 → wX12_isConsistent   s155 (fun (r156 : Int32) (s157 : Mem) => ((r156 = 0 → Q 0 s157) ∧ (¬ r156 = 0 → Q 1 s157))) E))) E) E))) E))) E))) E))) E))))) E) E) E) m158 x1_55 x2_56 x5_58 0 0  s119) ∧ (¬ r118 ≤ x4_57 → Q 0 s119))) E))))) E))))) E))))) E) E) m159 x1_20 x2_21 x4_22 x5_23 0 0 0  s24) m160 a2 a3 r1 r3 r5 0  s12) ∧ (¬ 0 ≤ r11 → Q 0 s12))) E))) E))) E))))))) E) E) E
set_option maxRecDepth 20000 in
set_option maxHeartbeats 4000000 in
theorem oL_isWell_66 {K : Fr} {Q : Int32 → Mem → Prop} {E : String → Mem → Prop} (B : Bd K cL_isWell "YarnMillLaw" 12 (some .boolean) 17 442 186 1116 (RI Q) E)    {X94 : Mem → Prop} {X102 : Int32 → Int32 → Int32 → Int32 → Mem → Prop} {CM SM : Nat} (hX94 : ∀ (τ : Mem), X94  τ → Go K CM SM τ 94 [none, none, none, none, none, none, none, none, none, none, none, none] ([])) (hX102 : ∀ (y1 : Int32) (y2 : Int32) (y4 : Int32) (y5 : Int32) (τ : Mem), X102 y1 y2 y4 y5 τ → Go K CM SM τ 102 [some (.ref (xad (fX K) 14 0)), some (.int y1), some (.int y2), none, some (.int y4), some (.int y5), none, none, none, none, none, none] ([])) (hCM : CM ≤ 186) (hSM : SM ≤ 1116) : ∀ (n : Nat) {cells slots : Nat} (hc : cells + n * 2 ≤ CM) (hs : slots + n * 12 ≤ SM) (v1 : Int32) (v2 : Int32) (v3 : Int32) (v4 : Int32) (v5 : Int32) (v6 : Int32) (s0 : Mem), wL_isWell_66   Q E X94 X102 n v1 v2 v3 v4 v5 v6 s0 → Go K cells slots s0 66 [some (.ref (xad (fX K) 14 0)), some (.int v1), some (.int v2), some (.int v3), some (.int v4), some (.int v5), some (.int v6), none, none, none, none, none] ([]) := by
  intro n
  induction n with
  | zero => intro cells slots hc hs v1 v2 v3 v4 v5 v6 s0 h; exact absurd h (by simp [wL_isWell_66])
  | succ n ih =>
    intro cells slots hc hs v1 v2 v3 v4 v5 v6 s0 h
    simp only [wL_isWell_66] at h
    refine g_iload (np := 68) B.1 dL_isWell_66 rfl rfl ?_
    refine g_iload_n (np := 69) B.1 dL_isWell_68 rfl rfl ?_
    refine g_icmp_ge (np := 72) (tgt := 102) B.1 dL_isWell_69 (by decide) rfl (fun q => ?_) (fun q => ?_)
    · replace h := h.1 q
      refine Go.lle [some (.ref (xad (fX K) 14 0)), some (.int v1), some (.int v2), none, some (.int v4), some (.int v5), none, none, none, none, none, none] (by simp [lle]) ?_
      exact Go.widen (by omega) (by omega) (hX102 v1 v2 v4 v5 s0 h)
    · replace h := h.2 q
      refine g_iload (np := 74) B.1 dL_isWell_72 rfl rfl ?_
      refine g_if_le (np := 77) (tgt := 96) B.1 dL_isWell_74 (by decide) rfl (fun q => ?_) (fun q => ?_)
      · replace h := h.1 q
        obtain ⟨v6_13, ev6_13⟩ : ∃ y : Int32, y = v6 + 1 := ⟨_, rfl⟩
        replace h := h v6_13 ev6_13
        refine g_iinc (np := 99) (v := v6_13) (lv' := [some (.ref (xad (fX K) 14 0)), some (.int v1), some (.int v2), some (.int v3), some (.int v4), some (.int v5), some (.int v6_13), none, none, none, none, none]) B.1 dL_isWell_96 rfl (by rw [ev6_13]; rfl) (by decide) rfl rfl rfl ?_
        refine g_goto (tgt := 66) B.1 dL_isWell_99 (by decide) ?_
        refine Go.lle [some (.ref (xad (fX K) 14 0)), some (.int v1), some (.int v2), some (.int v3), some (.int v4), some (.int v5), some (.int v6_13), none, none, none, none, none] (by simp [lle]) ?_
        exact ih (by omega) (by omega) v1 v2 v3 v4 v5 v6_13 s0 h
      · replace h := h.2 q
        refine g_aload_n (np := 78) B.1 dL_isWell_77 rfl rfl ?_
        refine g_iload (np := 80) B.1 dL_isWell_78 rfl rfl ?_
        refine g_iconst (np := 81) (v := 1) B.1 dL_isWell_80 (by decide) rfl ?_
        refine g_isub (np := 82) B.1 dL_isWell_81 rfl ?_
        refine gc_YLaw_129 (np := 85) B   (oX12_baleAt B.1.tr   (v6 - 1)  _ _ _ h) (Nat.le_of_ble_eq_true rfl) (Nat.le_of_ble_eq_true rfl) (Nat.le_of_ble_eq_true rfl) (by omega) (by omega) dL_isWell_82 rfl (fun r14 s15 h => ?_)
        refine g_aload_n (np := 86) B.1 dL_isWell_85 rfl rfl ?_
        refine g_iload (np := 88) B.1 dL_isWell_86 rfl rfl ?_
        refine gc_YLaw_129 (np := 91) B   (oX12_baleAt B.1.tr   v6  _ _ _ h) (Nat.le_of_ble_eq_true rfl) (Nat.le_of_ble_eq_true rfl) (Nat.le_of_ble_eq_true rfl) (by omega) (by omega) dL_isWell_88 rfl (fun r16 s17 h => ?_)
        refine g_icmp_lt (np := 94) (tgt := 96) B.1 dL_isWell_91 (by decide) rfl (fun q => ?_) (fun q => ?_)
        · replace h := h.1 q
          obtain ⟨v6_18, ev6_18⟩ : ∃ y : Int32, y = v6 + 1 := ⟨_, rfl⟩
          replace h := h v6_18 ev6_18
          refine g_iinc (np := 99) (v := v6_18) (lv' := [some (.ref (xad (fX K) 14 0)), some (.int v1), some (.int v2), some (.int v3), some (.int v4), some (.int v5), some (.int v6_18), none, none, none, none, none]) B.1 dL_isWell_96 rfl (by rw [ev6_18]; rfl) (by decide) rfl rfl rfl ?_
          refine g_goto (tgt := 66) B.1 dL_isWell_99 (by decide) ?_
          refine Go.lle [some (.ref (xad (fX K) 14 0)), some (.int v1), some (.int v2), some (.int v3), some (.int v4), some (.int v5), some (.int v6_18), none, none, none, none, none] (by simp [lle]) ?_
          exact ih (by omega) (by omega) v1 v2 v3 v4 v5 v6_18 s17 h
        · replace h := h.2 q
          refine Go.lle [none, none, none, none, none, none, none, none, none, none, none, none] (by simp [lle]) ?_
          exact Go.widen (by omega) (by omega) (hX94  s17 h)
set_option maxRecDepth 20000 in
set_option maxHeartbeats 4000000 in
theorem oL_isWell_111 {K : Fr} {Q : Int32 → Mem → Prop} {E : String → Mem → Prop} (B : Bd K cL_isWell "YarnMillLaw" 12 (some .boolean) 17 442 186 1116 (RI Q) E)    {X235 : Mem → Prop} {X243 : Int32 → Int32 → Int32 → Int32 → Int32 → Int32 → Mem → Prop} {CM SM : Nat} (hX235 : ∀ (τ : Mem), X235  τ → Go K CM SM τ 235 [none, none, none, none, none, none, none, none, none, none, none, none] ([])) (hX243 : ∀ (y1 : Int32) (y2 : Int32) (y4 : Int32) (y5 : Int32) (y6 : Int32) (y7 : Int32) (τ : Mem), X243 y1 y2 y4 y5 y6 y7 τ → Go K CM SM τ 243 [some (.ref (xad (fX K) 14 0)), some (.int y1), some (.int y2), none, some (.int y4), some (.int y5), some (.int y6), some (.int y7), none, none, none, none] ([])) (hCM : CM ≤ 186) (hSM : SM ≤ 1116) : ∀ (n : Nat) {cells slots : Nat} (hc : cells + n * 10 ≤ CM) (hs : slots + n * 60 ≤ SM) (v1 : Int32) (v2 : Int32) (v4 : Int32) (v5 : Int32) (v6 : Int32) (v7 : Int32) (v8 : Int32) (s0 : Mem), wL_isWell_111   Q E X235 X243 n v1 v2 v4 v5 v6 v7 v8 s0 → Go K cells slots s0 111 [some (.ref (xad (fX K) 14 0)), some (.int v1), some (.int v2), none, some (.int v4), some (.int v5), some (.int v6), some (.int v7), some (.int v8), none, none, none] ([]) := by
  intro n
  induction n with
  | zero => intro cells slots hc hs v1 v2 v4 v5 v6 v7 v8 s0 h; exact absurd h (by simp [wL_isWell_111])
  | succ n ih =>
    intro cells slots hc hs v1 v2 v4 v5 v6 v7 v8 s0 h
    simp only [wL_isWell_111] at h
    refine g_iload (np := 113) B.1 dL_isWell_111 rfl rfl ?_
    refine g_iload (np := 115) B.1 dL_isWell_113 rfl rfl ?_
    refine g_icmp_ge (np := 118) (tgt := 243) B.1 dL_isWell_115 (by decide) rfl (fun q => ?_) (fun q => ?_)
    · replace h := h.1 q
      refine Go.lle [some (.ref (xad (fX K) 14 0)), some (.int v1), some (.int v2), none, some (.int v4), some (.int v5), some (.int v6), some (.int v7), none, none, none, none] (by simp [lle]) ?_
      exact Go.widen (by omega) (by omega) (hX243 v1 v2 v4 v5 v6 v7 s0 h)
    · replace h := h.2 q
      refine g_aload_n (np := 119) B.1 dL_isWell_118 rfl rfl ?_
      refine g_iload (np := 121) B.1 dL_isWell_119 rfl rfl ?_
      refine gc_YLaw_135 (np := 124) B   (oX12_orderAt B.1.tr   v8  _ _ _ h) (Nat.le_of_ble_eq_true rfl) (Nat.le_of_ble_eq_true rfl) (Nat.le_of_ble_eq_true rfl) (by omega) (by omega) dL_isWell_121 rfl (fun r25 s26 h => ?_)
      refine g_istore (np := 126) (lv' := [some (.ref (xad (fX K) 14 0)), some (.int v1), some (.int v2), none, some (.int v4), some (.int v5), some (.int v6), some (.int v7), some (.int v8), some (.int r25), none, none]) B.1 dL_isWell_124 (by decide) rfl rfl rfl ?_
      refine g_iload (np := 128) B.1 dL_isWell_126 rfl rfl ?_
      refine g_aload_n (np := 129) B.1 dL_isWell_128 rfl rfl ?_
      refine g_iload (np := 131) B.1 dL_isWell_129 rfl rfl ?_
      refine gc_YLaw_231 (np := 134) B   (oX12_minutesOf B.1.tr   r25  _ _ _ h) (Nat.le_of_ble_eq_true rfl) (Nat.le_of_ble_eq_true rfl) (Nat.le_of_ble_eq_true rfl) (by omega) (by omega) dL_isWell_131 rfl (fun r27 s28 h => ?_)
      refine g_iadd (np := 135) B.1 dL_isWell_134 rfl ?_
      refine g_topi (fun v6_29 ev6_29 => ?_)
      replace h := h v6_29 ev6_29
      refine g_istore (np := 137) (lv' := [some (.ref (xad (fX K) 14 0)), some (.int v1), some (.int v2), none, some (.int v4), some (.int v5), some (.int v6_29), some (.int v7), some (.int v8), some (.int r25), none, none]) B.1 dL_isWell_135 (by decide) rfl rfl rfl ?_
      refine g_iload (np := 139) B.1 dL_isWell_137 rfl rfl ?_
      refine g_aload_n (np := 140) B.1 dL_isWell_139 rfl rfl ?_
      refine g_iload (np := 142) B.1 dL_isWell_140 rfl rfl ?_
      refine gc_YLaw_231 (np := 145) B   (oX12_minutesOf B.1.tr   r25  _ _ _ h) (Nat.le_of_ble_eq_true rfl) (Nat.le_of_ble_eq_true rfl) (Nat.le_of_ble_eq_true rfl) (by omega) (by omega) dL_isWell_142 rfl (fun r30 s31 h => ?_)
      refine g_mmax (np := 148) B.1 b_1505 b_137 b_30 b_138 (by rw [B.2.1]; exact Nat.le_of_ble_eq_true rfl) (by rw [B.2.1]; exact Nat.le_of_ble_eq_true rfl) (by rw [B.2.1]; dsimp only; omega) (by rw [B.2.1]; dsimp only; omega) dL_isWell_145 rfl ?_
      refine g_topi (fun v7_32 ev7_32 => ?_)
      replace h := h v7_32 ev7_32
      refine g_istore (np := 150) (lv' := [some (.ref (xad (fX K) 14 0)), some (.int v1), some (.int v2), none, some (.int v4), some (.int v5), some (.int v6_29), some (.int v7_32), some (.int v8), some (.int r25), none, none]) B.1 dL_isWell_148 (by decide) rfl rfl rfl ?_
      refine g_iconst (np := 151) (v := 3) B.1 dL_isWell_150 (by decide) rfl ?_
      refine g_aload_n (np := 152) B.1 dL_isWell_151 rfl rfl ?_
      refine g_iload (np := 154) B.1 dL_isWell_152 rfl rfl ?_
      refine gc_YLaw_221 (np := 157) B   (oX12_twistOf B.1.tr   r25  _ _ _ h) (Nat.le_of_ble_eq_true rfl) (Nat.le_of_ble_eq_true rfl) (Nat.le_of_ble_eq_true rfl) (by omega) (by omega) dL_isWell_154 rfl (fun r33 s34 h => ?_)
      refine g_iadd (np := 158) B.1 dL_isWell_157 rfl ?_
      refine g_topi (fun v10_35 ev10_35 => ?_)
      replace h := h v10_35 ev10_35
      refine g_istore (np := 160) (lv' := [some (.ref (xad (fX K) 14 0)), some (.int v1), some (.int v2), none, some (.int v4), some (.int v5), some (.int v6_29), some (.int v7_32), some (.int v8), some (.int r25), some (.int v10_35), none]) B.1 dL_isWell_158 (by decide) rfl rfl rfl ?_
      refine g_aload_n (np := 161) B.1 dL_isWell_160 rfl rfl ?_
      refine g_iload (np := 163) B.1 dL_isWell_161 rfl rfl ?_
      refine gc_YLaw_218 (np := 166) B   (oX12_lengthOf B.1.tr   r25  _ _ _ h) (Nat.le_of_ble_eq_true rfl) (Nat.le_of_ble_eq_true rfl) (Nat.le_of_ble_eq_true rfl) (by omega) (by omega) dL_isWell_163 rfl (fun r36 s37 h => ?_)
      refine g_iload (np := 168) B.1 dL_isWell_166 rfl rfl ?_
      refine g_iadd (np := 169) B.1 dL_isWell_168 rfl ?_
      refine g_iconst (np := 170) (v := 1) B.1 dL_isWell_169 (by decide) rfl ?_
      refine g_isub (np := 171) B.1 dL_isWell_170 rfl ?_
      refine g_iload (np := 173) B.1 dL_isWell_171 rfl rfl ?_
      refine g_idiv (np := 174) B.1 dL_isWell_173 h.1 rfl ?_
      replace h := h.2
      refine g_topi (fun v11_38 ev11_38 => ?_)
      replace h := h v11_38 ev11_38
      refine g_istore (np := 176) (lv' := [some (.ref (xad (fX K) 14 0)), some (.int v1), some (.int v2), none, some (.int v4), some (.int v5), some (.int v6_29), some (.int v7_32), some (.int v8), some (.int r25), some (.int v10_35), some (.int v11_38)]) B.1 dL_isWell_174 (by decide) rfl rfl rfl ?_
      refine g_aload_n (np := 177) B.1 dL_isWell_176 rfl rfl ?_
      refine g_iload (np := 179) B.1 dL_isWell_177 rfl rfl ?_
      refine gc_YLaw_231 (np := 182) B   (oX12_minutesOf B.1.tr   r25  _ _ _ h) (Nat.le_of_ble_eq_true rfl) (Nat.le_of_ble_eq_true rfl) (Nat.le_of_ble_eq_true rfl) (by omega) (by omega) dL_isWell_179 rfl (fun r39 s40 h => ?_)
      refine g_aload_n (np := 183) B.1 dL_isWell_182 rfl rfl ?_
      refine g_iload (np := 185) B.1 dL_isWell_183 rfl rfl ?_
      refine gc_YLaw_218 (np := 188) B   (oX12_lengthOf B.1.tr   r25  _ _ _ h) (Nat.le_of_ble_eq_true rfl) (Nat.le_of_ble_eq_true rfl) (Nat.le_of_ble_eq_true rfl) (by omega) (by omega) dL_isWell_185 rfl (fun r41 s42 h => ?_)
      refine g_aload_n (np := 189) B.1 dL_isWell_188 rfl rfl ?_
      refine g_iload (np := 191) B.1 dL_isWell_189 rfl rfl ?_
      refine gc_YLaw_221 (np := 194) B   (oX12_twistOf B.1.tr   r25  _ _ _ h) (Nat.le_of_ble_eq_true rfl) (Nat.le_of_ble_eq_true rfl) (Nat.le_of_ble_eq_true rfl) (by omega) (by omega) dL_isWell_191 rfl (fun r43 s44 h => ?_)
      refine g_imul (np := 195) B.1 dL_isWell_194 rfl ?_
      refine g_icmp_ne (np := 198) (tgt := 235) B.1 dL_isWell_195 (by decide) rfl (fun q => ?_) (fun q => ?_)
      · replace h := h.1 q
        refine Go.lle [none, none, none, none, none, none, none, none, none, none, none, none] (by simp [lle]) ?_
        exact Go.widen (by omega) (by omega) (hX235  s44 h)
      · replace h := h.2 q
        refine g_aload_n (np := 199) B.1 dL_isWell_198 rfl rfl ?_
        refine g_iload (np := 201) B.1 dL_isWell_199 rfl rfl ?_
        refine gc_YLaw_224 (np := 204) B   (oX12_canSpin B.1.tr   r25  _ _ _ h) (Nat.le_of_ble_eq_true rfl) (Nat.le_of_ble_eq_true rfl) (Nat.le_of_ble_eq_true rfl) (by omega) (by omega) dL_isWell_201 rfl (fun r45 s46 h => ?_)
        refine g_aload_n (np := 205) B.1 dL_isWell_204 rfl rfl ?_
        refine gc_YLaw_188 (np := 208) B   (oX12_roving B.1.tr     _ _ _ h) (Nat.le_of_ble_eq_true rfl) (Nat.le_of_ble_eq_true rfl) (Nat.le_of_ble_eq_true rfl) (by omega) (by omega) dL_isWell_205 rfl (fun r47 s48 h => ?_)
        refine g_aload_n (np := 209) B.1 dL_isWell_208 rfl rfl ?_
        refine g_iload (np := 211) B.1 dL_isWell_209 rfl rfl ?_
        refine gc_YLaw_218 (np := 214) B   (oX12_lengthOf B.1.tr   r25  _ _ _ h) (Nat.le_of_ble_eq_true rfl) (Nat.le_of_ble_eq_true rfl) (Nat.le_of_ble_eq_true rfl) (by omega) (by omega) dL_isWell_211 rfl (fun r49 s50 h => ?_)
        refine g_icmp_lt (np := 217) (tgt := 231) B.1 dL_isWell_214 (by decide) rfl (fun q => ?_) (fun q => ?_)
        · replace h := h.1 q
          refine g_iconst (np := 232) (v := 0) B.1 dL_isWell_231 (by decide) rfl ?_
          refine g_icmp_eq (np := 235) (tgt := 237) B.1 dL_isWell_232 (by decide) rfl (fun q => ?_) (fun q => ?_)
          · replace h := h.1 q
            obtain ⟨v8_51, ev8_51⟩ : ∃ y : Int32, y = v8 + 1 := ⟨_, rfl⟩
            replace h := h v8_51 ev8_51
            refine g_iinc (np := 240) (v := v8_51) (lv' := [some (.ref (xad (fX K) 14 0)), some (.int v1), some (.int v2), none, some (.int v4), some (.int v5), some (.int v6_29), some (.int v7_32), some (.int v8_51), some (.int r25), some (.int v10_35), some (.int v11_38)]) B.1 dL_isWell_237 rfl (by rw [ev8_51]; rfl) (by decide) rfl rfl rfl ?_
            refine g_goto (tgt := 111) B.1 dL_isWell_240 (by decide) ?_
            refine Go.lle [some (.ref (xad (fX K) 14 0)), some (.int v1), some (.int v2), none, some (.int v4), some (.int v5), some (.int v6_29), some (.int v7_32), some (.int v8_51), none, none, none] (by simp [lle]) ?_
            exact ih (by omega) (by omega) v1 v2 v4 v5 v6_29 v7_32 v8_51 s50 h
          · replace h := h.2 q
            refine Go.lle [none, none, none, none, none, none, none, none, none, none, none, none] (by simp [lle]) ?_
            exact Go.widen (by omega) (by omega) (hX235  s50 h)
        · replace h := h.2 q
          refine g_iload (np := 219) B.1 dL_isWell_217 rfl rfl ?_
          refine g_iload (np := 221) B.1 dL_isWell_219 rfl rfl ?_
          refine g_iadd (np := 222) B.1 dL_isWell_221 rfl ?_
          refine g_bipush (np := 224) (v := 12) B.1 dL_isWell_222 (by decide) rfl ?_
          refine g_icmp_gt (np := 227) (tgt := 231) B.1 dL_isWell_224 (by decide) rfl (fun q => ?_) (fun q => ?_)
          · replace h := h.1 q
            refine g_iconst (np := 232) (v := 0) B.1 dL_isWell_231 (by decide) rfl ?_
            refine g_icmp_eq (np := 235) (tgt := 237) B.1 dL_isWell_232 (by decide) rfl (fun q => ?_) (fun q => ?_)
            · replace h := h.1 q
              obtain ⟨v8_52, ev8_52⟩ : ∃ y : Int32, y = v8 + 1 := ⟨_, rfl⟩
              replace h := h v8_52 ev8_52
              refine g_iinc (np := 240) (v := v8_52) (lv' := [some (.ref (xad (fX K) 14 0)), some (.int v1), some (.int v2), none, some (.int v4), some (.int v5), some (.int v6_29), some (.int v7_32), some (.int v8_52), some (.int r25), some (.int v10_35), some (.int v11_38)]) B.1 dL_isWell_237 rfl (by rw [ev8_52]; rfl) (by decide) rfl rfl rfl ?_
              refine g_goto (tgt := 111) B.1 dL_isWell_240 (by decide) ?_
              refine Go.lle [some (.ref (xad (fX K) 14 0)), some (.int v1), some (.int v2), none, some (.int v4), some (.int v5), some (.int v6_29), some (.int v7_32), some (.int v8_52), none, none, none] (by simp [lle]) ?_
              exact ih (by omega) (by omega) v1 v2 v4 v5 v6_29 v7_32 v8_52 s50 h
            · replace h := h.2 q
              refine Go.lle [none, none, none, none, none, none, none, none, none, none, none, none] (by simp [lle]) ?_
              exact Go.widen (by omega) (by omega) (hX235  s50 h)
          · replace h := h.2 q
            refine g_iconst (np := 228) (v := 1) B.1 dL_isWell_227 (by decide) rfl ?_
            refine g_goto (tgt := 232) B.1 dL_isWell_228 (by decide) ?_
            refine g_icmp_eq (np := 235) (tgt := 237) B.1 dL_isWell_232 (by decide) rfl (fun q => ?_) (fun q => ?_)
            · replace h := h.1 q
              obtain ⟨v8_53, ev8_53⟩ : ∃ y : Int32, y = v8 + 1 := ⟨_, rfl⟩
              replace h := h v8_53 ev8_53
              refine g_iinc (np := 240) (v := v8_53) (lv' := [some (.ref (xad (fX K) 14 0)), some (.int v1), some (.int v2), none, some (.int v4), some (.int v5), some (.int v6_29), some (.int v7_32), some (.int v8_53), some (.int r25), some (.int v10_35), some (.int v11_38)]) B.1 dL_isWell_237 rfl (by rw [ev8_53]; rfl) (by decide) rfl rfl rfl ?_
              refine g_goto (tgt := 111) B.1 dL_isWell_240 (by decide) ?_
              refine Go.lle [some (.ref (xad (fX K) 14 0)), some (.int v1), some (.int v2), none, some (.int v4), some (.int v5), some (.int v6_29), some (.int v7_32), some (.int v8_53), none, none, none] (by simp [lle]) ?_
              exact ih (by omega) (by omega) v1 v2 v4 v5 v6_29 v7_32 v8_53 s50 h
            · replace h := h.2 q
              refine Go.lle [none, none, none, none, none, none, none, none, none, none, none, none] (by simp [lle]) ?_
              exact Go.widen (by omega) (by omega) (hX235  s50 h)
set_option maxRecDepth 20000 in
set_option maxHeartbeats 4000000 in
theorem oL_isWell_316 {K : Fr} {Q : Int32 → Mem → Prop} {E : String → Mem → Prop} (B : Bd K cL_isWell "YarnMillLaw" 12 (some .boolean) 17 442 186 1116 (RI Q) E)    {X368 : Mem → Prop} {X376 : Int32 → Int32 → Int32 → Int32 → Mem → Prop} {CM SM : Nat} (hX368 : ∀ (τ : Mem), X368  τ → Go K CM SM τ 368 [none, none, none, none, none, none, none, none, none, none, none, none] ([])) (hX376 : ∀ (y1 : Int32) (y2 : Int32) (y5 : Int32) (y9 : Int32) (τ : Mem), X376 y1 y2 y5 y9 τ → Go K CM SM τ 376 [some (.ref (xad (fX K) 14 0)), some (.int y1), some (.int y2), none, none, some (.int y5), none, none, none, some (.int y9), none, none] ([])) (hCM : CM ≤ 186) (hSM : SM ≤ 1116) : ∀ (n : Nat) {cells slots : Nat} (hc : cells + n * 2 ≤ CM) (hs : slots + n * 12 ≤ SM) (v1 : Int32) (v2 : Int32) (v5 : Int32) (v9 : Int32) (v10 : Int32) (s0 : Mem), wL_isWell_316   Q E X368 X376 n v1 v2 v5 v9 v10 s0 → Go K cells slots s0 316 [some (.ref (xad (fX K) 14 0)), some (.int v1), some (.int v2), none, none, some (.int v5), none, none, none, some (.int v9), some (.int v10), none] ([]) := by
  intro n
  induction n with
  | zero => intro cells slots hc hs v1 v2 v5 v9 v10 s0 h; exact absurd h (by simp [wL_isWell_316])
  | succ n ih =>
    intro cells slots hc hs v1 v2 v5 v9 v10 s0 h
    simp only [wL_isWell_316] at h
    refine g_iload (np := 318) B.1 dL_isWell_316 rfl rfl ?_
    refine g_iload (np := 320) B.1 dL_isWell_318 rfl rfl ?_
    refine g_icmp_ge (np := 323) (tgt := 376) B.1 dL_isWell_320 (by decide) rfl (fun q => ?_) (fun q => ?_)
    · replace h := h.1 q
      refine Go.lle [some (.ref (xad (fX K) 14 0)), some (.int v1), some (.int v2), none, none, some (.int v5), none, none, none, some (.int v9), none, none] (by simp [lle]) ?_
      exact Go.widen (by omega) (by omega) (hX376 v1 v2 v5 v9 s0 h)
    · replace h := h.2 q
      refine g_aload_n (np := 324) B.1 dL_isWell_323 rfl rfl ?_
      refine g_iload (np := 326) B.1 dL_isWell_324 rfl rfl ?_
      refine gc_YLaw_228 (np := 329) B   (oX12_pieceLength B.1.tr   v10  _ _ _ h) (Nat.le_of_ble_eq_true rfl) (Nat.le_of_ble_eq_true rfl) (Nat.le_of_ble_eq_true rfl) (by omega) (by omega) dL_isWell_326 rfl (fun r72 s73 h => ?_)
      refine g_istore (np := 331) (lv' := [some (.ref (xad (fX K) 14 0)), some (.int v1), some (.int v2), none, none, some (.int v5), none, none, none, some (.int v9), some (.int v10), some (.int r72)]) B.1 dL_isWell_329 (by decide) rfl rfl rfl ?_
      refine g_iload (np := 333) B.1 dL_isWell_331 rfl rfl ?_
      refine g_iload (np := 335) B.1 dL_isWell_333 rfl rfl ?_
      refine g_iadd (np := 336) B.1 dL_isWell_335 rfl ?_
      refine g_topi (fun v9_74 ev9_74 => ?_)
      replace h := h v9_74 ev9_74
      refine g_istore (np := 338) (lv' := [some (.ref (xad (fX K) 14 0)), some (.int v1), some (.int v2), none, none, some (.int v5), none, none, none, some (.int v9_74), some (.int v10), some (.int r72)]) B.1 dL_isWell_336 (by decide) rfl rfl rfl ?_
      refine g_iload (np := 340) B.1 dL_isWell_338 rfl rfl ?_
      refine g_iconst (np := 341) (v := 1) B.1 dL_isWell_340 (by decide) rfl ?_
      refine g_icmp_lt (np := 344) (tgt := 368) B.1 dL_isWell_341 (by decide) rfl (fun q => ?_) (fun q => ?_)
      · replace h := h.1 q
        refine Go.lle [none, none, none, none, none, none, none, none, none, none, none, none] (by simp [lle]) ?_
        exact Go.widen (by omega) (by omega) (hX368  s73 h)
      · replace h := h.2 q
        refine g_aload_n (np := 345) B.1 dL_isWell_344 rfl rfl ?_
        refine g_iload (np := 347) B.1 dL_isWell_345 rfl rfl ?_
        refine gc_YLaw_248 (np := 350) B   (oX12_worthOf B.1.tr   v10  _ _ _ h) (Nat.le_of_ble_eq_true rfl) (Nat.le_of_ble_eq_true rfl) (Nat.le_of_ble_eq_true rfl) (by omega) (by omega) dL_isWell_347 rfl (fun r75 s76 h => ?_)
        refine g_iload (np := 352) B.1 dL_isWell_350 rfl rfl ?_
        refine g_bipush (np := 354) (v := 10) B.1 dL_isWell_352 (by decide) rfl ?_
        refine g_icmp_lt (np := 357) (tgt := 361) B.1 dL_isWell_354 (by decide) rfl (fun q => ?_) (fun q => ?_)
        · replace h := h.1 q
          refine g_iconst (np := 362) (v := 2) B.1 dL_isWell_361 (by decide) rfl ?_
          refine g_iload (np := 364) B.1 dL_isWell_362 rfl rfl ?_
          refine g_imul (np := 365) B.1 dL_isWell_364 rfl ?_
          refine g_icmp_eq (np := 368) (tgt := 370) B.1 dL_isWell_365 (by decide) rfl (fun q => ?_) (fun q => ?_)
          · replace h := h.1 q
            obtain ⟨v10_77, ev10_77⟩ : ∃ y : Int32, y = v10 + 1 := ⟨_, rfl⟩
            replace h := h v10_77 ev10_77
            refine g_iinc (np := 373) (v := v10_77) (lv' := [some (.ref (xad (fX K) 14 0)), some (.int v1), some (.int v2), none, none, some (.int v5), none, none, none, some (.int v9_74), some (.int v10_77), some (.int r72)]) B.1 dL_isWell_370 rfl (by rw [ev10_77]; rfl) (by decide) rfl rfl rfl ?_
            refine g_goto (tgt := 316) B.1 dL_isWell_373 (by decide) ?_
            refine Go.lle [some (.ref (xad (fX K) 14 0)), some (.int v1), some (.int v2), none, none, some (.int v5), none, none, none, some (.int v9_74), some (.int v10_77), none] (by simp [lle]) ?_
            exact ih (by omega) (by omega) v1 v2 v5 v9_74 v10_77 s76 h
          · replace h := h.2 q
            refine Go.lle [none, none, none, none, none, none, none, none, none, none, none, none] (by simp [lle]) ?_
            exact Go.widen (by omega) (by omega) (hX368  s76 h)
        · replace h := h.2 q
          refine g_iconst (np := 358) (v := 5) B.1 dL_isWell_357 (by decide) rfl ?_
          refine g_goto (tgt := 362) B.1 dL_isWell_358 (by decide) ?_
          refine g_iload (np := 364) B.1 dL_isWell_362 rfl rfl ?_
          refine g_imul (np := 365) B.1 dL_isWell_364 rfl ?_
          refine g_icmp_eq (np := 368) (tgt := 370) B.1 dL_isWell_365 (by decide) rfl (fun q => ?_) (fun q => ?_)
          · replace h := h.1 q
            obtain ⟨v10_78, ev10_78⟩ : ∃ y : Int32, y = v10 + 1 := ⟨_, rfl⟩
            replace h := h v10_78 ev10_78
            refine g_iinc (np := 373) (v := v10_78) (lv' := [some (.ref (xad (fX K) 14 0)), some (.int v1), some (.int v2), none, none, some (.int v5), none, none, none, some (.int v9_74), some (.int v10_78), some (.int r72)]) B.1 dL_isWell_370 rfl (by rw [ev10_78]; rfl) (by decide) rfl rfl rfl ?_
            refine g_goto (tgt := 316) B.1 dL_isWell_373 (by decide) ?_
            refine Go.lle [some (.ref (xad (fX K) 14 0)), some (.int v1), some (.int v2), none, none, some (.int v5), none, none, none, some (.int v9_74), some (.int v10_78), none] (by simp [lle]) ?_
            exact ih (by omega) (by omega) v1 v2 v5 v9_74 v10_78 s76 h
          · replace h := h.2 q
            refine Go.lle [none, none, none, none, none, none, none, none, none, none, none, none] (by simp [lle]) ?_
            exact Go.widen (by omega) (by omega) (hX368  s76 h)
set_option maxRecDepth 20000 in
set_option maxHeartbeats 4000000 in
theorem oL_isWell {l : Launch} {x : Ctx} (hl : l.stackTraces = false)   (a2 : Int32) (a3 : Int32)  (s0 : Mem) (Q : Int32 → Mem → Prop) (E : String → Mem → Prop) (h : wL_isWell  a2 a3 s0 Q E) : MetG l x yL_isWell cL_isWell 12 (some .boolean) 17 442 186 1116 [.ref (xad x 14 0), .int a2, .int a3] s0 (RI Q) E := by
  refine MetG.of hl (by decide) (Nat.le_of_ble_eq_true rfl) [some (.ref (xad x 14 0)), some (.int a2), some (.int a3), none, none, none, none, none, none, none, none, none] rfl (fun K B hx _ => ?_)
  subst hx
  unfold wL_isWell at h
  refine g_aload_n (np := 1) B.1 dL_isWell_0 rfl rfl ?_
  refine gc_YLaw_126 (np := 4) B   (oX12_baleCount B.1.tr     _ _ _ h) (Nat.le_of_ble_eq_true rfl) (Nat.le_of_ble_eq_true rfl) (Nat.le_of_ble_eq_true rfl) (Nat.le_of_ble_eq_true rfl) (Nat.le_of_ble_eq_true rfl) dL_isWell_1 rfl (fun r1 s2 h => ?_)
  refine g_istore_n (np := 5) (lv' := [some (.ref (xad (fX K) 14 0)), some (.int a2), some (.int a3), some (.int r1), none, none, none, none, none, none, none, none]) B.1 dL_isWell_4 (by decide) rfl rfl rfl ?_
  refine g_aload_n (np := 6) B.1 dL_isWell_5 rfl rfl ?_
  refine gc_YLaw_132 (np := 9) B   (oX12_orderCount B.1.tr     _ _ _ h) (Nat.le_of_ble_eq_true rfl) (Nat.le_of_ble_eq_true rfl) (Nat.le_of_ble_eq_true rfl) (Nat.le_of_ble_eq_true rfl) (Nat.le_of_ble_eq_true rfl) dL_isWell_6 rfl (fun r3 s4 h => ?_)
  refine g_istore (np := 11) (lv' := [some (.ref (xad (fX K) 14 0)), some (.int a2), some (.int a3), some (.int r1), some (.int r3), none, none, none, none, none, none, none]) B.1 dL_isWell_9 (by decide) rfl rfl rfl ?_
  refine g_aload_n (np := 12) B.1 dL_isWell_11 rfl rfl ?_
  refine gc_YLaw_206 (np := 15) B   (oX12_pieceCount B.1.tr     _ _ _ h) (Nat.le_of_ble_eq_true rfl) (Nat.le_of_ble_eq_true rfl) (Nat.le_of_ble_eq_true rfl) (Nat.le_of_ble_eq_true rfl) (Nat.le_of_ble_eq_true rfl) dL_isWell_12 rfl (fun r5 s6 h => ?_)
  refine g_istore (np := 17) (lv' := [some (.ref (xad (fX K) 14 0)), some (.int a2), some (.int a3), some (.int r1), some (.int r3), some (.int r5), none, none, none, none, none, none]) B.1 dL_isWell_15 (by decide) rfl rfl rfl ?_
  refine g_iload_n (np := 18) B.1 dL_isWell_17 rfl rfl ?_
  refine g_bipush (np := 20) (v := 10) B.1 dL_isWell_18 (by decide) rfl ?_
  refine g_icmp_gt (np := 23) (tgt := 61) B.1 dL_isWell_20 (by decide) rfl (fun q => ?_) (fun q => ?_)
  · replace h := h.1 q
    refine g_iconst (np := 62) (v := 0) B.1 dL_isWell_61 (by decide) rfl ?_
    exact g_iret B (ty := .boolean) rfl (by decide) (Nat.le_of_ble_eq_true rfl) (Nat.le_of_ble_eq_true rfl) dL_isWell_62 ⟨_, rfl, h⟩
  · replace h := h.2 q
    refine g_iload (np := 25) B.1 dL_isWell_23 rfl rfl ?_
    refine g_bipush (np := 27) (v := 8) B.1 dL_isWell_25 (by decide) rfl ?_
    refine g_icmp_gt (np := 30) (tgt := 61) B.1 dL_isWell_27 (by decide) rfl (fun q => ?_) (fun q => ?_)
    · replace h := h.1 q
      refine g_iconst (np := 62) (v := 0) B.1 dL_isWell_61 (by decide) rfl ?_
      exact g_iret B (ty := .boolean) rfl (by decide) (Nat.le_of_ble_eq_true rfl) (Nat.le_of_ble_eq_true rfl) dL_isWell_62 ⟨_, rfl, h⟩
    · replace h := h.2 q
      refine g_iload (np := 32) B.1 dL_isWell_30 rfl rfl ?_
      refine g_bipush (np := 34) (v := 12) B.1 dL_isWell_32 (by decide) rfl ?_
      refine g_icmp_gt (np := 37) (tgt := 61) B.1 dL_isWell_34 (by decide) rfl (fun q => ?_) (fun q => ?_)
      · replace h := h.1 q
        refine g_iconst (np := 62) (v := 0) B.1 dL_isWell_61 (by decide) rfl ?_
        exact g_iret B (ty := .boolean) rfl (by decide) (Nat.le_of_ble_eq_true rfl) (Nat.le_of_ble_eq_true rfl) dL_isWell_62 ⟨_, rfl, h⟩
      · replace h := h.2 q
        refine g_aload_n (np := 38) B.1 dL_isWell_37 rfl rfl ?_
        refine gc_YLaw_188 (np := 41) B   (oX12_roving B.1.tr     _ _ _ h) (Nat.le_of_ble_eq_true rfl) (Nat.le_of_ble_eq_true rfl) (Nat.le_of_ble_eq_true rfl) (Nat.le_of_ble_eq_true rfl) (Nat.le_of_ble_eq_true rfl) dL_isWell_38 rfl (fun r7 s8 h => ?_)
        refine g_if_lt (np := 44) (tgt := 61) B.1 dL_isWell_41 (by decide) rfl (fun q => ?_) (fun q => ?_)
        · replace h := h.1 q
          refine g_iconst (np := 62) (v := 0) B.1 dL_isWell_61 (by decide) rfl ?_
          exact g_iret B (ty := .boolean) rfl (by decide) (Nat.le_of_ble_eq_true rfl) (Nat.le_of_ble_eq_true rfl) dL_isWell_62 ⟨_, rfl, h⟩
        · replace h := h.2 q
          refine g_aload_n (np := 45) B.1 dL_isWell_44 rfl rfl ?_
          refine gc_YLaw_188 (np := 48) B   (oX12_roving B.1.tr     _ _ _ h) (Nat.le_of_ble_eq_true rfl) (Nat.le_of_ble_eq_true rfl) (Nat.le_of_ble_eq_true rfl) (Nat.le_of_ble_eq_true rfl) (Nat.le_of_ble_eq_true rfl) dL_isWell_45 rfl (fun r9 s10 h => ?_)
          refine g_sipush (np := 51) (v := 999) B.1 dL_isWell_48 (by decide) rfl ?_
          refine g_icmp_gt (np := 54) (tgt := 61) B.1 dL_isWell_51 (by decide) rfl (fun q => ?_) (fun q => ?_)
          · replace h := h.1 q
            refine g_iconst (np := 62) (v := 0) B.1 dL_isWell_61 (by decide) rfl ?_
            exact g_iret B (ty := .boolean) rfl (by decide) (Nat.le_of_ble_eq_true rfl) (Nat.le_of_ble_eq_true rfl) dL_isWell_62 ⟨_, rfl, h⟩
          · replace h := h.2 q
            refine g_aload_n (np := 55) B.1 dL_isWell_54 rfl rfl ?_
            refine gc_YLaw_185 (np := 58) B   (oX12_coins B.1.tr     _ _ _ h) (Nat.le_of_ble_eq_true rfl) (Nat.le_of_ble_eq_true rfl) (Nat.le_of_ble_eq_true rfl) (Nat.le_of_ble_eq_true rfl) (Nat.le_of_ble_eq_true rfl) dL_isWell_55 rfl (fun r11 s12 h => ?_)
            refine g_if_ge (np := 61) (tgt := 63) B.1 dL_isWell_58 (by decide) rfl (fun q => ?_) (fun q => ?_)
            · replace h := h.1 q
              refine g_iconst (np := 64) (v := 0) B.1 dL_isWell_63 (by decide) rfl ?_
              refine g_istore (np := 66) (lv' := [some (.ref (xad (fX K) 14 0)), some (.int a2), some (.int a3), some (.int r1), some (.int r3), some (.int r5), some (.int 0), none, none, none, none, none]) B.1 dL_isWell_64 (by decide) rfl rfl rfl ?_
              obtain ⟨m160, hm_, h⟩ := h
              refine Go.lle [some (.ref (xad (fX K) 14 0)), some (.int a2), some (.int a3), some (.int r1), some (.int r3), some (.int r5), some (.int 0), none, none, none, none, none] (by simp [lle]) ?_
              refine oL_isWell_66 B    (fun s19 h => ?_) (fun x1_20 x2_21 x4_22 x5_23 s24 h => ?_) (CM := 26) (SM := 156) (Nat.le_of_ble_eq_true rfl) (Nat.le_of_ble_eq_true rfl) m160 (by omega) (by omega) a2 a3 r1 r3 r5 0  s12 h
              · refine g_iconst (np := 95) (v := 0) B.1 dL_isWell_94 (by decide) rfl ?_
                exact g_iret B (ty := .boolean) rfl (by decide) (Nat.le_of_ble_eq_true rfl) (Nat.le_of_ble_eq_true rfl) dL_isWell_95 ⟨_, rfl, h⟩
              · refine g_iconst (np := 103) (v := 0) B.1 dL_isWell_102 (by decide) rfl ?_
                refine g_istore (np := 105) (lv' := [some (.ref (xad (fX K) 14 0)), some (.int x1_20), some (.int x2_21), none, some (.int x4_22), some (.int x5_23), some (.int 0), none, none, none, none, none]) B.1 dL_isWell_103 (by decide) rfl rfl rfl ?_
                refine g_iconst (np := 106) (v := 0) B.1 dL_isWell_105 (by decide) rfl ?_
                refine g_istore (np := 108) (lv' := [some (.ref (xad (fX K) 14 0)), some (.int x1_20), some (.int x2_21), none, some (.int x4_22), some (.int x5_23), some (.int 0), some (.int 0), none, none, none, none]) B.1 dL_isWell_106 (by decide) rfl rfl rfl ?_
                refine g_iconst (np := 109) (v := 0) B.1 dL_isWell_108 (by decide) rfl ?_
                refine g_istore (np := 111) (lv' := [some (.ref (xad (fX K) 14 0)), some (.int x1_20), some (.int x2_21), none, some (.int x4_22), some (.int x5_23), some (.int 0), some (.int 0), some (.int 0), none, none, none]) B.1 dL_isWell_109 (by decide) rfl rfl rfl ?_
                obtain ⟨m159, hm_, h⟩ := h
                refine Go.lle [some (.ref (xad (fX K) 14 0)), some (.int x1_20), some (.int x2_21), none, some (.int x4_22), some (.int x5_23), some (.int 0), some (.int 0), some (.int 0), none, none, none] (by simp [lle]) ?_
                refine oL_isWell_111 B    (fun s54 h => ?_) (fun x1_55 x2_56 x4_57 x5_58 x6_59 x7_60 s61 h => ?_) (CM := 156) (SM := 936) (Nat.le_of_ble_eq_true rfl) (Nat.le_of_ble_eq_true rfl) m159 (by omega) (by omega) x1_20 x2_21 x4_22 x5_23 0 0 0  s24 h
                · refine g_iconst (np := 236) (v := 0) B.1 dL_isWell_235 (by decide) rfl ?_
                  exact g_iret B (ty := .boolean) rfl (by decide) (Nat.le_of_ble_eq_true rfl) (Nat.le_of_ble_eq_true rfl) dL_isWell_236 ⟨_, rfl, h⟩
                · refine g_aload_n (np := 244) B.1 dL_isWell_243 rfl rfl ?_
                  refine gc_YLaw_239 (np := 247) B   (oX12_shortestTime B.1.tr     _ _ _ h) (Nat.le_of_ble_eq_true rfl) (Nat.le_of_ble_eq_true rfl) (Nat.le_of_ble_eq_true rfl) (Nat.le_of_ble_eq_true rfl) (Nat.le_of_ble_eq_true rfl) dL_isWell_244 rfl (fun r62 s63 h => ?_)
                  refine g_istore (np := 249) (lv' := [some (.ref (xad (fX K) 14 0)), some (.int x1_55), some (.int x2_56), none, some (.int x4_57), some (.int x5_58), some (.int x6_59), some (.int x7_60), some (.int r62), none, none, none]) B.1 dL_isWell_247 (by decide) rfl rfl rfl ?_
                  refine g_iload (np := 251) B.1 dL_isWell_249 rfl rfl ?_
                  refine g_aload_n (np := 252) B.1 dL_isWell_251 rfl rfl ?_
                  refine gc_YLaw_242 (np := 255) B   (oX12_shortestTimeBySearch B.1.tr     _ _ _ h) (Nat.le_of_ble_eq_true rfl) (Nat.le_of_ble_eq_true rfl) (Nat.le_of_ble_eq_true rfl) (Nat.le_of_ble_eq_true rfl) (Nat.le_of_ble_eq_true rfl) dL_isWell_252 rfl (fun r64 s65 h => ?_)
                  refine g_icmp_ne (np := 258) (tgt := 308) B.1 dL_isWell_255 (by decide) rfl (fun q => ?_) (fun q => ?_)
                  · replace h := h.1 q
                    refine g_iconst (np := 309) (v := 0) B.1 dL_isWell_308 (by decide) rfl ?_
                    exact g_iret B (ty := .boolean) rfl (by decide) (Nat.le_of_ble_eq_true rfl) (Nat.le_of_ble_eq_true rfl) dL_isWell_309 ⟨_, rfl, h⟩
                  · replace h := h.2 q
                    refine g_iload (np := 260) B.1 dL_isWell_258 rfl rfl ?_
                    refine g_iload (np := 262) B.1 dL_isWell_260 rfl rfl ?_
                    refine g_icmp_lt (np := 265) (tgt := 308) B.1 dL_isWell_262 (by decide) rfl (fun q => ?_) (fun q => ?_)
                    · replace h := h.1 q
                      refine g_iconst (np := 309) (v := 0) B.1 dL_isWell_308 (by decide) rfl ?_
                      exact g_iret B (ty := .boolean) rfl (by decide) (Nat.le_of_ble_eq_true rfl) (Nat.le_of_ble_eq_true rfl) dL_isWell_309 ⟨_, rfl, h⟩
                    · replace h := h.2 q
                      refine g_iload (np := 267) B.1 dL_isWell_265 rfl rfl ?_
                      refine g_aload_n (np := 268) B.1 dL_isWell_267 rfl rfl ?_
                      refine gc_YLaw_194 (np := 271) B   (oX12_machines B.1.tr     _ _ _ h) (Nat.le_of_ble_eq_true rfl) (Nat.le_of_ble_eq_true rfl) (Nat.le_of_ble_eq_true rfl) (Nat.le_of_ble_eq_true rfl) (Nat.le_of_ble_eq_true rfl) dL_isWell_268 rfl (fun r66 s67 h => ?_)
                      refine g_imul (np := 272) B.1 dL_isWell_271 rfl ?_
                      refine g_iload (np := 274) B.1 dL_isWell_272 rfl rfl ?_
                      refine g_icmp_lt (np := 277) (tgt := 308) B.1 dL_isWell_274 (by decide) rfl (fun q => ?_) (fun q => ?_)
                      · replace h := h.1 q
                        refine g_iconst (np := 309) (v := 0) B.1 dL_isWell_308 (by decide) rfl ?_
                        exact g_iret B (ty := .boolean) rfl (by decide) (Nat.le_of_ble_eq_true rfl) (Nat.le_of_ble_eq_true rfl) dL_isWell_309 ⟨_, rfl, h⟩
                      · replace h := h.2 q
                        refine g_iload (np := 279) B.1 dL_isWell_277 rfl rfl ?_
                        refine g_iload (np := 281) B.1 dL_isWell_279 rfl rfl ?_
                        refine g_icmp_gt (np := 284) (tgt := 308) B.1 dL_isWell_281 (by decide) rfl (fun q => ?_) (fun q => ?_)
                        · replace h := h.1 q
                          refine g_iconst (np := 309) (v := 0) B.1 dL_isWell_308 (by decide) rfl ?_
                          exact g_iret B (ty := .boolean) rfl (by decide) (Nat.le_of_ble_eq_true rfl) (Nat.le_of_ble_eq_true rfl) dL_isWell_309 ⟨_, rfl, h⟩
                        · replace h := h.2 q
                          refine g_aload_n (np := 285) B.1 dL_isWell_284 rfl rfl ?_
                          refine gc_YLaw_194 (np := 288) B   (oX12_machines B.1.tr     _ _ _ h) (Nat.le_of_ble_eq_true rfl) (Nat.le_of_ble_eq_true rfl) (Nat.le_of_ble_eq_true rfl) (Nat.le_of_ble_eq_true rfl) (Nat.le_of_ble_eq_true rfl) dL_isWell_285 rfl (fun r68 s69 h => ?_)
                          refine g_iconst (np := 289) (v := 1) B.1 dL_isWell_288 (by decide) rfl ?_
                          refine g_icmp_ne (np := 292) (tgt := 299) B.1 dL_isWell_289 (by decide) rfl (fun q => ?_) (fun q => ?_)
                          · replace h := h.1 q
                            refine g_aload_n (np := 300) B.1 dL_isWell_299 rfl rfl ?_
                            refine gc_YLaw_245 (np := 303) B   (oX12_kinds B.1.tr     _ _ _ h) (Nat.le_of_ble_eq_true rfl) (Nat.le_of_ble_eq_true rfl) (Nat.le_of_ble_eq_true rfl) (Nat.le_of_ble_eq_true rfl) (Nat.le_of_ble_eq_true rfl) dL_isWell_300 rfl (fun r70 s71 h => ?_)
                            refine g_iload (np := 305) B.1 dL_isWell_303 rfl rfl ?_
                            refine g_icmp_le (np := 308) (tgt := 310) B.1 dL_isWell_305 (by decide) rfl (fun q => ?_) (fun q => ?_)
                            · replace h := h.1 q
                              refine g_iconst (np := 311) (v := 0) B.1 dL_isWell_310 (by decide) rfl ?_
                              refine g_istore (np := 313) (lv' := [some (.ref (xad (fX K) 14 0)), some (.int x1_55), some (.int x2_56), none, some (.int x4_57), some (.int x5_58), some (.int x6_59), some (.int x7_60), some (.int r62), some (.int 0), none, none]) B.1 dL_isWell_311 (by decide) rfl rfl rfl ?_
                              refine g_iconst (np := 314) (v := 0) B.1 dL_isWell_313 (by decide) rfl ?_
                              refine g_istore (np := 316) (lv' := [some (.ref (xad (fX K) 14 0)), some (.int x1_55), some (.int x2_56), none, some (.int x4_57), some (.int x5_58), some (.int x6_59), some (.int x7_60), some (.int r62), some (.int 0), some (.int 0), none]) B.1 dL_isWell_314 (by decide) rfl rfl rfl ?_
                              obtain ⟨m117, hm_, h⟩ := h
                              refine Go.lle [some (.ref (xad (fX K) 14 0)), some (.int x1_55), some (.int x2_56), none, none, some (.int x5_58), none, none, none, some (.int 0), some (.int 0), none] (by simp [lle]) ?_
                              refine oL_isWell_316 B    (fun s79 h => ?_) (fun x1_80 x2_81 x5_82 x9_83 s84 h => ?_) (CM := 182) (SM := 1092) (Nat.le_of_ble_eq_true rfl) (Nat.le_of_ble_eq_true rfl) m117 (by omega) (by omega) x1_55 x2_56 x5_58 0 0  s71 h
                              · refine g_iconst (np := 369) (v := 0) B.1 dL_isWell_368 (by decide) rfl ?_
                                exact g_iret B (ty := .boolean) rfl (by decide) (Nat.le_of_ble_eq_true rfl) (Nat.le_of_ble_eq_true rfl) dL_isWell_369 ⟨_, rfl, h⟩
                              · refine g_aload_n (np := 377) B.1 dL_isWell_376 rfl rfl ?_
                                refine g_iload_n (np := 378) B.1 dL_isWell_377 rfl rfl ?_
                                refine g_iload_n (np := 379) B.1 dL_isWell_378 rfl rfl ?_
                                refine gc_YLaw_251 (np := 382) B   (oL_blendValue B.1.tr   x1_80 x2_81  _ _ _ h) (Nat.le_of_ble_eq_true rfl) (Nat.le_of_ble_eq_true rfl) (Nat.le_of_ble_eq_true rfl) (Nat.le_of_ble_eq_true rfl) (Nat.le_of_ble_eq_true rfl) dL_isWell_379 rfl (fun r85 s86 h => ?_)
                                refine g_istore (np := 384) (lv' := [some (.ref (xad (fX K) 14 0)), some (.int x1_80), some (.int x2_81), none, none, some (.int x5_82), none, none, none, some (.int x9_83), some (.int r85), none]) B.1 dL_isWell_382 (by decide) rfl rfl rfl ?_
                                refine g_aload_n (np := 385) B.1 dL_isWell_384 rfl rfl ?_
                                refine gc_YLaw_253 (np := 388) B   (oX12_spliceCost B.1.tr     _ _ _ h) (Nat.le_of_ble_eq_true rfl) (Nat.le_of_ble_eq_true rfl) (Nat.le_of_ble_eq_true rfl) (Nat.le_of_ble_eq_true rfl) (Nat.le_of_ble_eq_true rfl) dL_isWell_385 rfl (fun r87 s88 h => ?_)
                                refine g_aload_n (np := 389) B.1 dL_isWell_388 rfl rfl ?_
                                refine gc_YLaw_256 (np := 392) B   (oX12_spliceCostByMemory B.1.tr     _ _ _ h) (Nat.le_of_ble_eq_true rfl) (Nat.le_of_ble_eq_true rfl) (Nat.le_of_ble_eq_true rfl) (Nat.le_of_ble_eq_true rfl) (Nat.le_of_ble_eq_true rfl) dL_isWell_389 rfl (fun r89 s90 h => ?_)
                                refine g_icmp_ne (np := 395) (tgt := 412) B.1 dL_isWell_392 (by decide) rfl (fun q => ?_) (fun q => ?_)
                                · replace h := h.1 q
                                  refine g_iconst (np := 413) (v := 0) B.1 dL_isWell_412 (by decide) rfl ?_
                                  refine g_istore (np := 415) (lv' := [some (.ref (xad (fX K) 14 0)), some (.int x1_80), some (.int x2_81), none, none, some (.int x5_82), none, none, none, some (.int x9_83), some (.int r85), some (.int 0)]) B.1 dL_isWell_413 (by decide) rfl rfl rfl ?_
                                  refine g_iload (np := 417) B.1 dL_isWell_415 rfl rfl ?_
                                  refine g_if_eq (np := 420) (tgt := 471) B.1 dL_isWell_417 (by decide) rfl (fun _ => ?_) (fun q => absurd (by decide) q)
                                  refine g_iconst (np := 472) (v := 0) B.1 dL_isWell_471 (by decide) rfl ?_
                                  exact g_iret B (ty := .boolean) rfl (by decide) (Nat.le_of_ble_eq_true rfl) (Nat.le_of_ble_eq_true rfl) dL_isWell_472 ⟨_, rfl, h⟩
                                · replace h := h.2 q
                                  refine g_iload (np := 397) B.1 dL_isWell_395 rfl rfl ?_
                                  refine g_iconst (np := 398) (v := 1) B.1 dL_isWell_397 (by decide) rfl ?_
                                  refine g_icmp_gt (np := 401) (tgt := 408) B.1 dL_isWell_398 (by decide) rfl (fun q => ?_) (fun q => ?_)
                                  · replace h := h.1 q
                                    refine g_iconst (np := 409) (v := 1) B.1 dL_isWell_408 (by decide) rfl ?_
                                    refine g_goto (tgt := 413) B.1 dL_isWell_409 (by decide) ?_
                                    refine g_istore (np := 415) (lv' := [some (.ref (xad (fX K) 14 0)), some (.int x1_80), some (.int x2_81), none, none, some (.int x5_82), none, none, none, some (.int x9_83), some (.int r85), some (.int 1)]) B.1 dL_isWell_413 (by decide) rfl rfl rfl ?_
                                    refine g_iload (np := 417) B.1 dL_isWell_415 rfl rfl ?_
                                    refine g_if_eq (np := 420) (tgt := 471) B.1 dL_isWell_417 (by decide) rfl (fun q => absurd q (by decide)) (fun _ => ?_)
                                    refine g_iload (np := 422) B.1 dL_isWell_420 rfl rfl ?_
                                    refine g_aload_n (np := 423) B.1 dL_isWell_422 rfl rfl ?_
                                    refine g_iload_n (np := 424) B.1 dL_isWell_423 rfl rfl ?_
                                    refine g_iload_n (np := 425) B.1 dL_isWell_424 rfl rfl ?_
                                    refine gc_YLaw_259 (np := 428) B   (oL_blendValueBySearch B.1.tr   x1_80 x2_81  _ _ _ h) (Nat.le_of_ble_eq_true rfl) (Nat.le_of_ble_eq_true rfl) (Nat.le_of_ble_eq_true rfl) (Nat.le_of_ble_eq_true rfl) (Nat.le_of_ble_eq_true rfl) dL_isWell_425 rfl (fun r91 s92 h => ?_)
                                    refine g_icmp_ne (np := 431) (tgt := 471) B.1 dL_isWell_428 (by decide) rfl (fun q => ?_) (fun q => ?_)
                                    · replace h := h.1 q
                                      refine g_iconst (np := 472) (v := 0) B.1 dL_isWell_471 (by decide) rfl ?_
                                      exact g_iret B (ty := .boolean) rfl (by decide) (Nat.le_of_ble_eq_true rfl) (Nat.le_of_ble_eq_true rfl) dL_isWell_472 ⟨_, rfl, h⟩
                                    · replace h := h.2 q
                                      refine g_iload (np := 433) B.1 dL_isWell_431 rfl rfl ?_
                                      refine g_aload_n (np := 434) B.1 dL_isWell_433 rfl rfl ?_
                                      refine gc_YLaw_261 (np := 437) B   (oX12_shelfLength B.1.tr     _ _ _ h) (Nat.le_of_ble_eq_true rfl) (Nat.le_of_ble_eq_true rfl) (Nat.le_of_ble_eq_true rfl) (Nat.le_of_ble_eq_true rfl) (Nat.le_of_ble_eq_true rfl) dL_isWell_434 rfl (fun r93 s94 h => ?_)
                                      refine g_icmp_ne (np := 440) (tgt := 471) B.1 dL_isWell_437 (by decide) rfl (fun q => ?_) (fun q => ?_)
                                      · replace h := h.1 q
                                        refine g_iconst (np := 472) (v := 0) B.1 dL_isWell_471 (by decide) rfl ?_
                                        exact g_iret B (ty := .boolean) rfl (by decide) (Nat.le_of_ble_eq_true rfl) (Nat.le_of_ble_eq_true rfl) dL_isWell_472 ⟨_, rfl, h⟩
                                      · replace h := h.2 q
                                        refine g_iload (np := 442) B.1 dL_isWell_440 rfl rfl ?_
                                        refine g_aload_n (np := 443) B.1 dL_isWell_442 rfl rfl ?_
                                        refine gc_YLaw_264 (np := 446) B   (oX12_shelfLengthByAccounts B.1.tr     _ _ _ h) (Nat.le_of_ble_eq_true rfl) (Nat.le_of_ble_eq_true rfl) (Nat.le_of_ble_eq_true rfl) (Nat.le_of_ble_eq_true rfl) (Nat.le_of_ble_eq_true rfl) dL_isWell_443 rfl (fun r95 s96 h => ?_)
                                        refine g_icmp_ne (np := 449) (tgt := 471) B.1 dL_isWell_446 (by decide) rfl (fun q => ?_) (fun q => ?_)
                                        · replace h := h.1 q
                                          refine g_iconst (np := 472) (v := 0) B.1 dL_isWell_471 (by decide) rfl ?_
                                          exact g_iret B (ty := .boolean) rfl (by decide) (Nat.le_of_ble_eq_true rfl) (Nat.le_of_ble_eq_true rfl) dL_isWell_472 ⟨_, rfl, h⟩
                                        · replace h := h.2 q
                                          refine g_aload_n (np := 450) B.1 dL_isWell_449 rfl rfl ?_
                                          refine gc_YLaw_185 (np := 453) B   (oX12_coins B.1.tr     _ _ _ h) (Nat.le_of_ble_eq_true rfl) (Nat.le_of_ble_eq_true rfl) (Nat.le_of_ble_eq_true rfl) (Nat.le_of_ble_eq_true rfl) (Nat.le_of_ble_eq_true rfl) dL_isWell_450 rfl (fun r97 s98 h => ?_)
                                          refine g_aload_n (np := 454) B.1 dL_isWell_453 rfl rfl ?_
                                          refine gc_YLaw_267 (np := 457) B   (oX12_coinsByAccounts B.1.tr     _ _ _ h) (Nat.le_of_ble_eq_true rfl) (Nat.le_of_ble_eq_true rfl) (Nat.le_of_ble_eq_true rfl) (Nat.le_of_ble_eq_true rfl) (Nat.le_of_ble_eq_true rfl) dL_isWell_454 rfl (fun r99 s100 h => ?_)
                                          refine g_icmp_ne (np := 460) (tgt := 471) B.1 dL_isWell_457 (by decide) rfl (fun q => ?_) (fun q => ?_)
                                          · replace h := h.1 q
                                            refine g_iconst (np := 472) (v := 0) B.1 dL_isWell_471 (by decide) rfl ?_
                                            exact g_iret B (ty := .boolean) rfl (by decide) (Nat.le_of_ble_eq_true rfl) (Nat.le_of_ble_eq_true rfl) dL_isWell_472 ⟨_, rfl, h⟩
                                          · replace h := h.2 q
                                            refine g_aload_n (np := 461) B.1 dL_isWell_460 rfl rfl ?_
                                            refine gc_YLaw_270 (np := 464) B   (oX12_isConsistent B.1.tr     _ _ _ h) (Nat.le_of_ble_eq_true rfl) (Nat.le_of_ble_eq_true rfl) (Nat.le_of_ble_eq_true rfl) (Nat.le_of_ble_eq_true rfl) (Nat.le_of_ble_eq_true rfl) dL_isWell_461 rfl (fun r101 s102 h => ?_)
                                            refine g_if_eq (np := 467) (tgt := 471) B.1 dL_isWell_464 (by decide) rfl (fun q => ?_) (fun q => ?_)
                                            · replace h := h.1 q
                                              refine g_iconst (np := 472) (v := 0) B.1 dL_isWell_471 (by decide) rfl ?_
                                              exact g_iret B (ty := .boolean) rfl (by decide) (Nat.le_of_ble_eq_true rfl) (Nat.le_of_ble_eq_true rfl) dL_isWell_472 ⟨_, rfl, h⟩
                                            · replace h := h.2 q
                                              refine g_iconst (np := 468) (v := 1) B.1 dL_isWell_467 (by decide) rfl ?_
                                              refine g_goto (tgt := 472) B.1 dL_isWell_468 (by decide) ?_
                                              exact g_iret B (ty := .boolean) rfl (by decide) (Nat.le_of_ble_eq_true rfl) (Nat.le_of_ble_eq_true rfl) dL_isWell_472 ⟨_, rfl, h⟩
                                  · replace h := h.2 q
                                    refine g_aload_n (np := 402) B.1 dL_isWell_401 rfl rfl ?_
                                    refine gc_YLaw_253 (np := 405) B   (oX12_spliceCost B.1.tr     _ _ _ h) (Nat.le_of_ble_eq_true rfl) (Nat.le_of_ble_eq_true rfl) (Nat.le_of_ble_eq_true rfl) (Nat.le_of_ble_eq_true rfl) (Nat.le_of_ble_eq_true rfl) dL_isWell_402 rfl (fun r103 s104 h => ?_)
                                    refine g_if_ne (np := 408) (tgt := 412) B.1 dL_isWell_405 (by decide) rfl (fun q => ?_) (fun q => ?_)
                                    · replace h := h.1 q
                                      refine g_iconst (np := 413) (v := 0) B.1 dL_isWell_412 (by decide) rfl ?_
                                      refine g_istore (np := 415) (lv' := [some (.ref (xad (fX K) 14 0)), some (.int x1_80), some (.int x2_81), none, none, some (.int x5_82), none, none, none, some (.int x9_83), some (.int r85), some (.int 0)]) B.1 dL_isWell_413 (by decide) rfl rfl rfl ?_
                                      refine g_iload (np := 417) B.1 dL_isWell_415 rfl rfl ?_
                                      refine g_if_eq (np := 420) (tgt := 471) B.1 dL_isWell_417 (by decide) rfl (fun _ => ?_) (fun q => absurd (by decide) q)
                                      refine g_iconst (np := 472) (v := 0) B.1 dL_isWell_471 (by decide) rfl ?_
                                      exact g_iret B (ty := .boolean) rfl (by decide) (Nat.le_of_ble_eq_true rfl) (Nat.le_of_ble_eq_true rfl) dL_isWell_472 ⟨_, rfl, h⟩
                                    · replace h := h.2 q
                                      refine g_iconst (np := 409) (v := 1) B.1 dL_isWell_408 (by decide) rfl ?_
                                      refine g_goto (tgt := 413) B.1 dL_isWell_409 (by decide) ?_
                                      refine g_istore (np := 415) (lv' := [some (.ref (xad (fX K) 14 0)), some (.int x1_80), some (.int x2_81), none, none, some (.int x5_82), none, none, none, some (.int x9_83), some (.int r85), some (.int 1)]) B.1 dL_isWell_413 (by decide) rfl rfl rfl ?_
                                      refine g_iload (np := 417) B.1 dL_isWell_415 rfl rfl ?_
                                      refine g_if_eq (np := 420) (tgt := 471) B.1 dL_isWell_417 (by decide) rfl (fun q => absurd q (by decide)) (fun _ => ?_)
                                      refine g_iload (np := 422) B.1 dL_isWell_420 rfl rfl ?_
                                      refine g_aload_n (np := 423) B.1 dL_isWell_422 rfl rfl ?_
                                      refine g_iload_n (np := 424) B.1 dL_isWell_423 rfl rfl ?_
                                      refine g_iload_n (np := 425) B.1 dL_isWell_424 rfl rfl ?_
                                      refine gc_YLaw_259 (np := 428) B   (oL_blendValueBySearch B.1.tr   x1_80 x2_81  _ _ _ h) (Nat.le_of_ble_eq_true rfl) (Nat.le_of_ble_eq_true rfl) (Nat.le_of_ble_eq_true rfl) (Nat.le_of_ble_eq_true rfl) (Nat.le_of_ble_eq_true rfl) dL_isWell_425 rfl (fun r105 s106 h => ?_)
                                      refine g_icmp_ne (np := 431) (tgt := 471) B.1 dL_isWell_428 (by decide) rfl (fun q => ?_) (fun q => ?_)
                                      · replace h := h.1 q
                                        refine g_iconst (np := 472) (v := 0) B.1 dL_isWell_471 (by decide) rfl ?_
                                        exact g_iret B (ty := .boolean) rfl (by decide) (Nat.le_of_ble_eq_true rfl) (Nat.le_of_ble_eq_true rfl) dL_isWell_472 ⟨_, rfl, h⟩
                                      · replace h := h.2 q
                                        refine g_iload (np := 433) B.1 dL_isWell_431 rfl rfl ?_
                                        refine g_aload_n (np := 434) B.1 dL_isWell_433 rfl rfl ?_
                                        refine gc_YLaw_261 (np := 437) B   (oX12_shelfLength B.1.tr     _ _ _ h) (Nat.le_of_ble_eq_true rfl) (Nat.le_of_ble_eq_true rfl) (Nat.le_of_ble_eq_true rfl) (Nat.le_of_ble_eq_true rfl) (Nat.le_of_ble_eq_true rfl) dL_isWell_434 rfl (fun r107 s108 h => ?_)
                                        refine g_icmp_ne (np := 440) (tgt := 471) B.1 dL_isWell_437 (by decide) rfl (fun q => ?_) (fun q => ?_)
                                        · replace h := h.1 q
                                          refine g_iconst (np := 472) (v := 0) B.1 dL_isWell_471 (by decide) rfl ?_
                                          exact g_iret B (ty := .boolean) rfl (by decide) (Nat.le_of_ble_eq_true rfl) (Nat.le_of_ble_eq_true rfl) dL_isWell_472 ⟨_, rfl, h⟩
                                        · replace h := h.2 q
                                          refine g_iload (np := 442) B.1 dL_isWell_440 rfl rfl ?_
                                          refine g_aload_n (np := 443) B.1 dL_isWell_442 rfl rfl ?_
                                          refine gc_YLaw_264 (np := 446) B   (oX12_shelfLengthByAccounts B.1.tr     _ _ _ h) (Nat.le_of_ble_eq_true rfl) (Nat.le_of_ble_eq_true rfl) (Nat.le_of_ble_eq_true rfl) (Nat.le_of_ble_eq_true rfl) (Nat.le_of_ble_eq_true rfl) dL_isWell_443 rfl (fun r109 s110 h => ?_)
                                          refine g_icmp_ne (np := 449) (tgt := 471) B.1 dL_isWell_446 (by decide) rfl (fun q => ?_) (fun q => ?_)
                                          · replace h := h.1 q
                                            refine g_iconst (np := 472) (v := 0) B.1 dL_isWell_471 (by decide) rfl ?_
                                            exact g_iret B (ty := .boolean) rfl (by decide) (Nat.le_of_ble_eq_true rfl) (Nat.le_of_ble_eq_true rfl) dL_isWell_472 ⟨_, rfl, h⟩
                                          · replace h := h.2 q
                                            refine g_aload_n (np := 450) B.1 dL_isWell_449 rfl rfl ?_
                                            refine gc_YLaw_185 (np := 453) B   (oX12_coins B.1.tr     _ _ _ h) (Nat.le_of_ble_eq_true rfl) (Nat.le_of_ble_eq_true rfl) (Nat.le_of_ble_eq_true rfl) (Nat.le_of_ble_eq_true rfl) (Nat.le_of_ble_eq_true rfl) dL_isWell_450 rfl (fun r111 s112 h => ?_)
                                            refine g_aload_n (np := 454) B.1 dL_isWell_453 rfl rfl ?_
                                            refine gc_YLaw_267 (np := 457) B   (oX12_coinsByAccounts B.1.tr     _ _ _ h) (Nat.le_of_ble_eq_true rfl) (Nat.le_of_ble_eq_true rfl) (Nat.le_of_ble_eq_true rfl) (Nat.le_of_ble_eq_true rfl) (Nat.le_of_ble_eq_true rfl) dL_isWell_454 rfl (fun r113 s114 h => ?_)
                                            refine g_icmp_ne (np := 460) (tgt := 471) B.1 dL_isWell_457 (by decide) rfl (fun q => ?_) (fun q => ?_)
                                            · replace h := h.1 q
                                              refine g_iconst (np := 472) (v := 0) B.1 dL_isWell_471 (by decide) rfl ?_
                                              exact g_iret B (ty := .boolean) rfl (by decide) (Nat.le_of_ble_eq_true rfl) (Nat.le_of_ble_eq_true rfl) dL_isWell_472 ⟨_, rfl, h⟩
                                            · replace h := h.2 q
                                              refine g_aload_n (np := 461) B.1 dL_isWell_460 rfl rfl ?_
                                              refine gc_YLaw_270 (np := 464) B   (oX12_isConsistent B.1.tr     _ _ _ h) (Nat.le_of_ble_eq_true rfl) (Nat.le_of_ble_eq_true rfl) (Nat.le_of_ble_eq_true rfl) (Nat.le_of_ble_eq_true rfl) (Nat.le_of_ble_eq_true rfl) dL_isWell_461 rfl (fun r115 s116 h => ?_)
                                              refine g_if_eq (np := 467) (tgt := 471) B.1 dL_isWell_464 (by decide) rfl (fun q => ?_) (fun q => ?_)
                                              · replace h := h.1 q
                                                refine g_iconst (np := 472) (v := 0) B.1 dL_isWell_471 (by decide) rfl ?_
                                                exact g_iret B (ty := .boolean) rfl (by decide) (Nat.le_of_ble_eq_true rfl) (Nat.le_of_ble_eq_true rfl) dL_isWell_472 ⟨_, rfl, h⟩
                                              · replace h := h.2 q
                                                refine g_iconst (np := 468) (v := 1) B.1 dL_isWell_467 (by decide) rfl ?_
                                                refine g_goto (tgt := 472) B.1 dL_isWell_468 (by decide) ?_
                                                exact g_iret B (ty := .boolean) rfl (by decide) (Nat.le_of_ble_eq_true rfl) (Nat.le_of_ble_eq_true rfl) dL_isWell_472 ⟨_, rfl, h⟩
                            · replace h := h.2 q
                              refine g_iconst (np := 309) (v := 0) B.1 dL_isWell_308 (by decide) rfl ?_
                              exact g_iret B (ty := .boolean) rfl (by decide) (Nat.le_of_ble_eq_true rfl) (Nat.le_of_ble_eq_true rfl) dL_isWell_309 ⟨_, rfl, h⟩
                          · replace h := h.2 q
                            refine g_iload (np := 294) B.1 dL_isWell_292 rfl rfl ?_
                            refine g_iload (np := 296) B.1 dL_isWell_294 rfl rfl ?_
                            refine g_icmp_ne (np := 299) (tgt := 308) B.1 dL_isWell_296 (by decide) rfl (fun q => ?_) (fun q => ?_)
                            · replace h := h.1 q
                              refine g_iconst (np := 309) (v := 0) B.1 dL_isWell_308 (by decide) rfl ?_
                              exact g_iret B (ty := .boolean) rfl (by decide) (Nat.le_of_ble_eq_true rfl) (Nat.le_of_ble_eq_true rfl) dL_isWell_309 ⟨_, rfl, h⟩
                            · replace h := h.2 q
                              refine g_aload_n (np := 300) B.1 dL_isWell_299 rfl rfl ?_
                              refine gc_YLaw_245 (np := 303) B   (oX12_kinds B.1.tr     _ _ _ h) (Nat.le_of_ble_eq_true rfl) (Nat.le_of_ble_eq_true rfl) (Nat.le_of_ble_eq_true rfl) (Nat.le_of_ble_eq_true rfl) (Nat.le_of_ble_eq_true rfl) dL_isWell_300 rfl (fun r118 s119 h => ?_)
                              refine g_iload (np := 305) B.1 dL_isWell_303 rfl rfl ?_
                              refine g_icmp_le (np := 308) (tgt := 310) B.1 dL_isWell_305 (by decide) rfl (fun q => ?_) (fun q => ?_)
                              · replace h := h.1 q
                                refine g_iconst (np := 311) (v := 0) B.1 dL_isWell_310 (by decide) rfl ?_
                                refine g_istore (np := 313) (lv' := [some (.ref (xad (fX K) 14 0)), some (.int x1_55), some (.int x2_56), none, some (.int x4_57), some (.int x5_58), some (.int x6_59), some (.int x7_60), some (.int r62), some (.int 0), none, none]) B.1 dL_isWell_311 (by decide) rfl rfl rfl ?_
                                refine g_iconst (np := 314) (v := 0) B.1 dL_isWell_313 (by decide) rfl ?_
                                refine g_istore (np := 316) (lv' := [some (.ref (xad (fX K) 14 0)), some (.int x1_55), some (.int x2_56), none, some (.int x4_57), some (.int x5_58), some (.int x6_59), some (.int x7_60), some (.int r62), some (.int 0), some (.int 0), none]) B.1 dL_isWell_314 (by decide) rfl rfl rfl ?_
                                obtain ⟨m158, hm_, h⟩ := h
                                refine Go.lle [some (.ref (xad (fX K) 14 0)), some (.int x1_55), some (.int x2_56), none, none, some (.int x5_58), none, none, none, some (.int 0), some (.int 0), none] (by simp [lle]) ?_
                                refine oL_isWell_316 B    (fun s120 h => ?_) (fun x1_121 x2_122 x5_123 x9_124 s125 h => ?_) (CM := 182) (SM := 1092) (Nat.le_of_ble_eq_true rfl) (Nat.le_of_ble_eq_true rfl) m158 (by omega) (by omega) x1_55 x2_56 x5_58 0 0  s119 h
                                · refine g_iconst (np := 369) (v := 0) B.1 dL_isWell_368 (by decide) rfl ?_
                                  exact g_iret B (ty := .boolean) rfl (by decide) (Nat.le_of_ble_eq_true rfl) (Nat.le_of_ble_eq_true rfl) dL_isWell_369 ⟨_, rfl, h⟩
                                · refine g_aload_n (np := 377) B.1 dL_isWell_376 rfl rfl ?_
                                  refine g_iload_n (np := 378) B.1 dL_isWell_377 rfl rfl ?_
                                  refine g_iload_n (np := 379) B.1 dL_isWell_378 rfl rfl ?_
                                  refine gc_YLaw_251 (np := 382) B   (oL_blendValue B.1.tr   x1_121 x2_122  _ _ _ h) (Nat.le_of_ble_eq_true rfl) (Nat.le_of_ble_eq_true rfl) (Nat.le_of_ble_eq_true rfl) (Nat.le_of_ble_eq_true rfl) (Nat.le_of_ble_eq_true rfl) dL_isWell_379 rfl (fun r126 s127 h => ?_)
                                  refine g_istore (np := 384) (lv' := [some (.ref (xad (fX K) 14 0)), some (.int x1_121), some (.int x2_122), none, none, some (.int x5_123), none, none, none, some (.int x9_124), some (.int r126), none]) B.1 dL_isWell_382 (by decide) rfl rfl rfl ?_
                                  refine g_aload_n (np := 385) B.1 dL_isWell_384 rfl rfl ?_
                                  refine gc_YLaw_253 (np := 388) B   (oX12_spliceCost B.1.tr     _ _ _ h) (Nat.le_of_ble_eq_true rfl) (Nat.le_of_ble_eq_true rfl) (Nat.le_of_ble_eq_true rfl) (Nat.le_of_ble_eq_true rfl) (Nat.le_of_ble_eq_true rfl) dL_isWell_385 rfl (fun r128 s129 h => ?_)
                                  refine g_aload_n (np := 389) B.1 dL_isWell_388 rfl rfl ?_
                                  refine gc_YLaw_256 (np := 392) B   (oX12_spliceCostByMemory B.1.tr     _ _ _ h) (Nat.le_of_ble_eq_true rfl) (Nat.le_of_ble_eq_true rfl) (Nat.le_of_ble_eq_true rfl) (Nat.le_of_ble_eq_true rfl) (Nat.le_of_ble_eq_true rfl) dL_isWell_389 rfl (fun r130 s131 h => ?_)
                                  refine g_icmp_ne (np := 395) (tgt := 412) B.1 dL_isWell_392 (by decide) rfl (fun q => ?_) (fun q => ?_)
                                  · replace h := h.1 q
                                    refine g_iconst (np := 413) (v := 0) B.1 dL_isWell_412 (by decide) rfl ?_
                                    refine g_istore (np := 415) (lv' := [some (.ref (xad (fX K) 14 0)), some (.int x1_121), some (.int x2_122), none, none, some (.int x5_123), none, none, none, some (.int x9_124), some (.int r126), some (.int 0)]) B.1 dL_isWell_413 (by decide) rfl rfl rfl ?_
                                    refine g_iload (np := 417) B.1 dL_isWell_415 rfl rfl ?_
                                    refine g_if_eq (np := 420) (tgt := 471) B.1 dL_isWell_417 (by decide) rfl (fun _ => ?_) (fun q => absurd (by decide) q)
                                    refine g_iconst (np := 472) (v := 0) B.1 dL_isWell_471 (by decide) rfl ?_
                                    exact g_iret B (ty := .boolean) rfl (by decide) (Nat.le_of_ble_eq_true rfl) (Nat.le_of_ble_eq_true rfl) dL_isWell_472 ⟨_, rfl, h⟩
                                  · replace h := h.2 q
                                    refine g_iload (np := 397) B.1 dL_isWell_395 rfl rfl ?_
                                    refine g_iconst (np := 398) (v := 1) B.1 dL_isWell_397 (by decide) rfl ?_
                                    refine g_icmp_gt (np := 401) (tgt := 408) B.1 dL_isWell_398 (by decide) rfl (fun q => ?_) (fun q => ?_)
                                    · replace h := h.1 q
                                      refine g_iconst (np := 409) (v := 1) B.1 dL_isWell_408 (by decide) rfl ?_
                                      refine g_goto (tgt := 413) B.1 dL_isWell_409 (by decide) ?_
                                      refine g_istore (np := 415) (lv' := [some (.ref (xad (fX K) 14 0)), some (.int x1_121), some (.int x2_122), none, none, some (.int x5_123), none, none, none, some (.int x9_124), some (.int r126), some (.int 1)]) B.1 dL_isWell_413 (by decide) rfl rfl rfl ?_
                                      refine g_iload (np := 417) B.1 dL_isWell_415 rfl rfl ?_
                                      refine g_if_eq (np := 420) (tgt := 471) B.1 dL_isWell_417 (by decide) rfl (fun q => absurd q (by decide)) (fun _ => ?_)
                                      refine g_iload (np := 422) B.1 dL_isWell_420 rfl rfl ?_
                                      refine g_aload_n (np := 423) B.1 dL_isWell_422 rfl rfl ?_
                                      refine g_iload_n (np := 424) B.1 dL_isWell_423 rfl rfl ?_
                                      refine g_iload_n (np := 425) B.1 dL_isWell_424 rfl rfl ?_
                                      refine gc_YLaw_259 (np := 428) B   (oL_blendValueBySearch B.1.tr   x1_121 x2_122  _ _ _ h) (Nat.le_of_ble_eq_true rfl) (Nat.le_of_ble_eq_true rfl) (Nat.le_of_ble_eq_true rfl) (Nat.le_of_ble_eq_true rfl) (Nat.le_of_ble_eq_true rfl) dL_isWell_425 rfl (fun r132 s133 h => ?_)
                                      refine g_icmp_ne (np := 431) (tgt := 471) B.1 dL_isWell_428 (by decide) rfl (fun q => ?_) (fun q => ?_)
                                      · replace h := h.1 q
                                        refine g_iconst (np := 472) (v := 0) B.1 dL_isWell_471 (by decide) rfl ?_
                                        exact g_iret B (ty := .boolean) rfl (by decide) (Nat.le_of_ble_eq_true rfl) (Nat.le_of_ble_eq_true rfl) dL_isWell_472 ⟨_, rfl, h⟩
                                      · replace h := h.2 q
                                        refine g_iload (np := 433) B.1 dL_isWell_431 rfl rfl ?_
                                        refine g_aload_n (np := 434) B.1 dL_isWell_433 rfl rfl ?_
                                        refine gc_YLaw_261 (np := 437) B   (oX12_shelfLength B.1.tr     _ _ _ h) (Nat.le_of_ble_eq_true rfl) (Nat.le_of_ble_eq_true rfl) (Nat.le_of_ble_eq_true rfl) (Nat.le_of_ble_eq_true rfl) (Nat.le_of_ble_eq_true rfl) dL_isWell_434 rfl (fun r134 s135 h => ?_)
                                        refine g_icmp_ne (np := 440) (tgt := 471) B.1 dL_isWell_437 (by decide) rfl (fun q => ?_) (fun q => ?_)
                                        · replace h := h.1 q
                                          refine g_iconst (np := 472) (v := 0) B.1 dL_isWell_471 (by decide) rfl ?_
                                          exact g_iret B (ty := .boolean) rfl (by decide) (Nat.le_of_ble_eq_true rfl) (Nat.le_of_ble_eq_true rfl) dL_isWell_472 ⟨_, rfl, h⟩
                                        · replace h := h.2 q
                                          refine g_iload (np := 442) B.1 dL_isWell_440 rfl rfl ?_
                                          refine g_aload_n (np := 443) B.1 dL_isWell_442 rfl rfl ?_
                                          refine gc_YLaw_264 (np := 446) B   (oX12_shelfLengthByAccounts B.1.tr     _ _ _ h) (Nat.le_of_ble_eq_true rfl) (Nat.le_of_ble_eq_true rfl) (Nat.le_of_ble_eq_true rfl) (Nat.le_of_ble_eq_true rfl) (Nat.le_of_ble_eq_true rfl) dL_isWell_443 rfl (fun r136 s137 h => ?_)
                                          refine g_icmp_ne (np := 449) (tgt := 471) B.1 dL_isWell_446 (by decide) rfl (fun q => ?_) (fun q => ?_)
                                          · replace h := h.1 q
                                            refine g_iconst (np := 472) (v := 0) B.1 dL_isWell_471 (by decide) rfl ?_
                                            exact g_iret B (ty := .boolean) rfl (by decide) (Nat.le_of_ble_eq_true rfl) (Nat.le_of_ble_eq_true rfl) dL_isWell_472 ⟨_, rfl, h⟩
                                          · replace h := h.2 q
                                            refine g_aload_n (np := 450) B.1 dL_isWell_449 rfl rfl ?_
                                            refine gc_YLaw_185 (np := 453) B   (oX12_coins B.1.tr     _ _ _ h) (Nat.le_of_ble_eq_true rfl) (Nat.le_of_ble_eq_true rfl) (Nat.le_of_ble_eq_true rfl) (Nat.le_of_ble_eq_true rfl) (Nat.le_of_ble_eq_true rfl) dL_isWell_450 rfl (fun r138 s139 h => ?_)
                                            refine g_aload_n (np := 454) B.1 dL_isWell_453 rfl rfl ?_
                                            refine gc_YLaw_267 (np := 457) B   (oX12_coinsByAccounts B.1.tr     _ _ _ h) (Nat.le_of_ble_eq_true rfl) (Nat.le_of_ble_eq_true rfl) (Nat.le_of_ble_eq_true rfl) (Nat.le_of_ble_eq_true rfl) (Nat.le_of_ble_eq_true rfl) dL_isWell_454 rfl (fun r140 s141 h => ?_)
                                            refine g_icmp_ne (np := 460) (tgt := 471) B.1 dL_isWell_457 (by decide) rfl (fun q => ?_) (fun q => ?_)
                                            · replace h := h.1 q
                                              refine g_iconst (np := 472) (v := 0) B.1 dL_isWell_471 (by decide) rfl ?_
                                              exact g_iret B (ty := .boolean) rfl (by decide) (Nat.le_of_ble_eq_true rfl) (Nat.le_of_ble_eq_true rfl) dL_isWell_472 ⟨_, rfl, h⟩
                                            · replace h := h.2 q
                                              refine g_aload_n (np := 461) B.1 dL_isWell_460 rfl rfl ?_
                                              refine gc_YLaw_270 (np := 464) B   (oX12_isConsistent B.1.tr     _ _ _ h) (Nat.le_of_ble_eq_true rfl) (Nat.le_of_ble_eq_true rfl) (Nat.le_of_ble_eq_true rfl) (Nat.le_of_ble_eq_true rfl) (Nat.le_of_ble_eq_true rfl) dL_isWell_461 rfl (fun r142 s143 h => ?_)
                                              refine g_if_eq (np := 467) (tgt := 471) B.1 dL_isWell_464 (by decide) rfl (fun q => ?_) (fun q => ?_)
                                              · replace h := h.1 q
                                                refine g_iconst (np := 472) (v := 0) B.1 dL_isWell_471 (by decide) rfl ?_
                                                exact g_iret B (ty := .boolean) rfl (by decide) (Nat.le_of_ble_eq_true rfl) (Nat.le_of_ble_eq_true rfl) dL_isWell_472 ⟨_, rfl, h⟩
                                              · replace h := h.2 q
                                                refine g_iconst (np := 468) (v := 1) B.1 dL_isWell_467 (by decide) rfl ?_
                                                refine g_goto (tgt := 472) B.1 dL_isWell_468 (by decide) ?_
                                                exact g_iret B (ty := .boolean) rfl (by decide) (Nat.le_of_ble_eq_true rfl) (Nat.le_of_ble_eq_true rfl) dL_isWell_472 ⟨_, rfl, h⟩
                                    · replace h := h.2 q
                                      refine g_aload_n (np := 402) B.1 dL_isWell_401 rfl rfl ?_
                                      refine gc_YLaw_253 (np := 405) B   (oX12_spliceCost B.1.tr     _ _ _ h) (Nat.le_of_ble_eq_true rfl) (Nat.le_of_ble_eq_true rfl) (Nat.le_of_ble_eq_true rfl) (Nat.le_of_ble_eq_true rfl) (Nat.le_of_ble_eq_true rfl) dL_isWell_402 rfl (fun r144 s145 h => ?_)
                                      refine g_if_ne (np := 408) (tgt := 412) B.1 dL_isWell_405 (by decide) rfl (fun q => ?_) (fun q => ?_)
                                      · replace h := h.1 q
                                        refine g_iconst (np := 413) (v := 0) B.1 dL_isWell_412 (by decide) rfl ?_
                                        refine g_istore (np := 415) (lv' := [some (.ref (xad (fX K) 14 0)), some (.int x1_121), some (.int x2_122), none, none, some (.int x5_123), none, none, none, some (.int x9_124), some (.int r126), some (.int 0)]) B.1 dL_isWell_413 (by decide) rfl rfl rfl ?_
                                        refine g_iload (np := 417) B.1 dL_isWell_415 rfl rfl ?_
                                        refine g_if_eq (np := 420) (tgt := 471) B.1 dL_isWell_417 (by decide) rfl (fun _ => ?_) (fun q => absurd (by decide) q)
                                        refine g_iconst (np := 472) (v := 0) B.1 dL_isWell_471 (by decide) rfl ?_
                                        exact g_iret B (ty := .boolean) rfl (by decide) (Nat.le_of_ble_eq_true rfl) (Nat.le_of_ble_eq_true rfl) dL_isWell_472 ⟨_, rfl, h⟩
                                      · replace h := h.2 q
                                        refine g_iconst (np := 409) (v := 1) B.1 dL_isWell_408 (by decide) rfl ?_
                                        refine g_goto (tgt := 413) B.1 dL_isWell_409 (by decide) ?_
                                        refine g_istore (np := 415) (lv' := [some (.ref (xad (fX K) 14 0)), some (.int x1_121), some (.int x2_122), none, none, some (.int x5_123), none, none, none, some (.int x9_124), some (.int r126), some (.int 1)]) B.1 dL_isWell_413 (by decide) rfl rfl rfl ?_
                                        refine g_iload (np := 417) B.1 dL_isWell_415 rfl rfl ?_
                                        refine g_if_eq (np := 420) (tgt := 471) B.1 dL_isWell_417 (by decide) rfl (fun q => absurd q (by decide)) (fun _ => ?_)
                                        refine g_iload (np := 422) B.1 dL_isWell_420 rfl rfl ?_
                                        refine g_aload_n (np := 423) B.1 dL_isWell_422 rfl rfl ?_
                                        refine g_iload_n (np := 424) B.1 dL_isWell_423 rfl rfl ?_
                                        refine g_iload_n (np := 425) B.1 dL_isWell_424 rfl rfl ?_
                                        refine gc_YLaw_259 (np := 428) B   (oL_blendValueBySearch B.1.tr   x1_121 x2_122  _ _ _ h) (Nat.le_of_ble_eq_true rfl) (Nat.le_of_ble_eq_true rfl) (Nat.le_of_ble_eq_true rfl) (Nat.le_of_ble_eq_true rfl) (Nat.le_of_ble_eq_true rfl) dL_isWell_425 rfl (fun r146 s147 h => ?_)
                                        refine g_icmp_ne (np := 431) (tgt := 471) B.1 dL_isWell_428 (by decide) rfl (fun q => ?_) (fun q => ?_)
                                        · replace h := h.1 q
                                          refine g_iconst (np := 472) (v := 0) B.1 dL_isWell_471 (by decide) rfl ?_
                                          exact g_iret B (ty := .boolean) rfl (by decide) (Nat.le_of_ble_eq_true rfl) (Nat.le_of_ble_eq_true rfl) dL_isWell_472 ⟨_, rfl, h⟩
                                        · replace h := h.2 q
                                          refine g_iload (np := 433) B.1 dL_isWell_431 rfl rfl ?_
                                          refine g_aload_n (np := 434) B.1 dL_isWell_433 rfl rfl ?_
                                          refine gc_YLaw_261 (np := 437) B   (oX12_shelfLength B.1.tr     _ _ _ h) (Nat.le_of_ble_eq_true rfl) (Nat.le_of_ble_eq_true rfl) (Nat.le_of_ble_eq_true rfl) (Nat.le_of_ble_eq_true rfl) (Nat.le_of_ble_eq_true rfl) dL_isWell_434 rfl (fun r148 s149 h => ?_)
                                          refine g_icmp_ne (np := 440) (tgt := 471) B.1 dL_isWell_437 (by decide) rfl (fun q => ?_) (fun q => ?_)
                                          · replace h := h.1 q
                                            refine g_iconst (np := 472) (v := 0) B.1 dL_isWell_471 (by decide) rfl ?_
                                            exact g_iret B (ty := .boolean) rfl (by decide) (Nat.le_of_ble_eq_true rfl) (Nat.le_of_ble_eq_true rfl) dL_isWell_472 ⟨_, rfl, h⟩
                                          · replace h := h.2 q
                                            refine g_iload (np := 442) B.1 dL_isWell_440 rfl rfl ?_
                                            refine g_aload_n (np := 443) B.1 dL_isWell_442 rfl rfl ?_
                                            refine gc_YLaw_264 (np := 446) B   (oX12_shelfLengthByAccounts B.1.tr     _ _ _ h) (Nat.le_of_ble_eq_true rfl) (Nat.le_of_ble_eq_true rfl) (Nat.le_of_ble_eq_true rfl) (Nat.le_of_ble_eq_true rfl) (Nat.le_of_ble_eq_true rfl) dL_isWell_443 rfl (fun r150 s151 h => ?_)
                                            refine g_icmp_ne (np := 449) (tgt := 471) B.1 dL_isWell_446 (by decide) rfl (fun q => ?_) (fun q => ?_)
                                            · replace h := h.1 q
                                              refine g_iconst (np := 472) (v := 0) B.1 dL_isWell_471 (by decide) rfl ?_
                                              exact g_iret B (ty := .boolean) rfl (by decide) (Nat.le_of_ble_eq_true rfl) (Nat.le_of_ble_eq_true rfl) dL_isWell_472 ⟨_, rfl, h⟩
                                            · replace h := h.2 q
                                              refine g_aload_n (np := 450) B.1 dL_isWell_449 rfl rfl ?_
                                              refine gc_YLaw_185 (np := 453) B   (oX12_coins B.1.tr     _ _ _ h) (Nat.le_of_ble_eq_true rfl) (Nat.le_of_ble_eq_true rfl) (Nat.le_of_ble_eq_true rfl) (Nat.le_of_ble_eq_true rfl) (Nat.le_of_ble_eq_true rfl) dL_isWell_450 rfl (fun r152 s153 h => ?_)
                                              refine g_aload_n (np := 454) B.1 dL_isWell_453 rfl rfl ?_
                                              refine gc_YLaw_267 (np := 457) B   (oX12_coinsByAccounts B.1.tr     _ _ _ h) (Nat.le_of_ble_eq_true rfl) (Nat.le_of_ble_eq_true rfl) (Nat.le_of_ble_eq_true rfl) (Nat.le_of_ble_eq_true rfl) (Nat.le_of_ble_eq_true rfl) dL_isWell_454 rfl (fun r154 s155 h => ?_)
                                              refine g_icmp_ne (np := 460) (tgt := 471) B.1 dL_isWell_457 (by decide) rfl (fun q => ?_) (fun q => ?_)
                                              · replace h := h.1 q
                                                refine g_iconst (np := 472) (v := 0) B.1 dL_isWell_471 (by decide) rfl ?_
                                                exact g_iret B (ty := .boolean) rfl (by decide) (Nat.le_of_ble_eq_true rfl) (Nat.le_of_ble_eq_true rfl) dL_isWell_472 ⟨_, rfl, h⟩
                                              · replace h := h.2 q
                                                refine g_aload_n (np := 461) B.1 dL_isWell_460 rfl rfl ?_
                                                refine gc_YLaw_270 (np := 464) B   (oX12_isConsistent B.1.tr     _ _ _ h) (Nat.le_of_ble_eq_true rfl) (Nat.le_of_ble_eq_true rfl) (Nat.le_of_ble_eq_true rfl) (Nat.le_of_ble_eq_true rfl) (Nat.le_of_ble_eq_true rfl) dL_isWell_461 rfl (fun r156 s157 h => ?_)
                                                refine g_if_eq (np := 467) (tgt := 471) B.1 dL_isWell_464 (by decide) rfl (fun q => ?_) (fun q => ?_)
                                                · replace h := h.1 q
                                                  refine g_iconst (np := 472) (v := 0) B.1 dL_isWell_471 (by decide) rfl ?_
                                                  exact g_iret B (ty := .boolean) rfl (by decide) (Nat.le_of_ble_eq_true rfl) (Nat.le_of_ble_eq_true rfl) dL_isWell_472 ⟨_, rfl, h⟩
                                                · replace h := h.2 q
                                                  refine g_iconst (np := 468) (v := 1) B.1 dL_isWell_467 (by decide) rfl ?_
                                                  refine g_goto (tgt := 472) B.1 dL_isWell_468 (by decide) ?_
                                                  exact g_iret B (ty := .boolean) rfl (by decide) (Nat.le_of_ble_eq_true rfl) (Nat.le_of_ble_eq_true rfl) dL_isWell_472 ⟨_, rfl, h⟩
                              · replace h := h.2 q
                                refine g_iconst (np := 309) (v := 0) B.1 dL_isWell_308 (by decide) rfl ?_
                                exact g_iret B (ty := .boolean) rfl (by decide) (Nat.le_of_ble_eq_true rfl) (Nat.le_of_ble_eq_true rfl) dL_isWell_309 ⟨_, rfl, h⟩
            · replace h := h.2 q
              refine g_iconst (np := 62) (v := 0) B.1 dL_isWell_61 (by decide) rfl ?_
              exact g_iret B (ty := .boolean) rfl (by decide) (Nat.le_of_ble_eq_true rfl) (Nat.le_of_ble_eq_true rfl) dL_isWell_62 ⟨_, rfl, h⟩

