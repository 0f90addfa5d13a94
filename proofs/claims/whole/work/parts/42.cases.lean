/-! THE LAW'S LOOP: its body's cases over the world -/
def BL (K : Fr) (b L : Nat) (xs : Nat → Int32) : Prop := Fx K cL_law "YarnMillLaw" 9 ∧ fR K = room_1 ∧ va_X b L xs (fS K) (fS K).heap ∧ b < (fS K).heap.size ∧ ¬ XA (fX K) b ∧ NCs (fS K)
section LC
variable {K : Fr} {b L : Nat} {xs : Nat → Int32} {cells slots : Nat} {σ : Mem} {pc : Nat} {lv lv' : List (Option Value)} {st : List Value}
theorem g_sld (B : BL K b L xs) {i : Int32} (hin : vp_in i L) (hdg : decode cL_law pc = .ok (.iaload, 1)) {np : Nat} (hp : pc + 1 = np) (kk : Go K cells slots σ np lv (.int (xs i.toNatClampNeg) :: st)) : Go K cells slots σ pc lv (.int i :: .ref b :: st) := by
  subst hp
  exact fun H locs ls hC hD hS hL => va_sld B.1.x B.1.b B.2.2.1 B.2.2.2.1 B.2.2.2.2.1 hS hin hdg (kk H locs ls hC hD hS hL)
theorem g_slen (B : BL K b L xs) (hdg : decode cL_law pc = .ok (.arraylength, 1)) {np : Nat} (hp : pc + 1 = np) (kk : Go K cells slots σ np lv (.int (nI L) :: st)) : Go K cells slots σ pc lv (.ref b :: st) := by
  subst hp
  exact fun H locs ls hC hD hS hL => va_slen B.1.x B.1.b B.2.2.1 B.2.2.2.1 B.2.2.2.2.1 hS hdg (kk H locs ls hC hD hS hL)
theorem g_callW (B : BL K b L xs) {i n : Nat} {y' : MethodName} {cc' : ByteArray} {maxL' fr' lo' mc' ms' : Nat} {hh : List (Nat × Nat × Nat × Nat)} {As : List Value} {Qm' : Option Value → Mem → Prop} (hM : MetH (fL K) (fX K) y' cc' maxL' hh fr' lo' mc' ms' As σ Qm')
    (hcode : Cond.codeWith y' cc' maxL' (some .int) hh ∈ lw_good) (hlink : Cond.methodLink "YarnMillLaw" i y' ∈ lw_good) (hstat : Cond.static y' ∈ lw_good) (hini : Cond.initialized y'.cls ∈ lw_good)
    (hd : y'.cls ≠ "java/lang/invoke/MethodHandle" ∧ y'.cls ≠ "java/lang/invoke/VarHandle" ∧ (parseMethodDescriptor y'.desc).map (fun d => d.parameters.length) = some n) (hn : As.length = n) (hfr : fr' + 1 ≤ 2048) (hlo : 8 + (maxL' + 11) + lo' ≤ 94400) (hst : (st.map fun v => v.category).sum ≤ 8) (hdg : decode cL_law pc = .ok (.invokestatic i, 3))
    (hc : cells + mc' ≤ 603072) (hs : slots + ms' ≤ 7202922)
    {np : Nat} (hp : pc + 3 = np) (kk : ∀ (r : Option Value) (σ' : Mem), Qm' r σ' → Go K (cells + mc') (slots + ms') σ' np lv (r.toList ++ st)) : Go K cells slots σ pc lv (As.reverse ++ st) := by
  subst hp
  refine g_ranN (a := As.toArray) (fun H locs ls hC hD hS hL => ?_) rfl kk
  have F := B.1
  have hG : GoodIn lw_good (va_wsS "YarnMillLaw" i y' (Cond.codeWith y' cc' maxL' (some .int) hh :: lw_good)) := by
    intro w hw
    have h2 : w ∈ lw_good := by
      unfold va_wsS at hw
      simp only [List.cons_append, List.nil_append, List.mem_cons] at hw
      rcases hw with e | e | e | e | e
      · rw [e]; exact hlink
      · rw [e]; exact hstat
      · rw [e]; exact hini
      · rw [e]; exact hcode
      · exact e
    exact ⟨h2, good_of_word (List.mem_filter.mp h2).2⟩
  have hfx : CallFix (fP K) (fM K) (fC K) cL_law 9 (fS K) (fA K) lw_good "YarnMillLaw" := ⟨F.x, F.b, F.ml.trans F.n, F.o, F.w⟩
  exact vx_runSW hfx hM (vx_cwSW n F.w hG rfl rfl rfl hd ⟨by rw [B.2.1]; exact hfr, by rw [B.2.1]; exact hlo⟩)
    ⟨fun a U g mk q => ⟨q.1, q.2.1.moved (State.WarmedH.refl U) rfl, q.2.2.moved (State.WarmedH.refl U).alike⟩, fun U hU hW => ⟨rfl, bd_wd F hC hD hS hU hW, B.2.2.2.2.2.moved hW.alike⟩⟩ rfl hn (hL.1.trans F.n) rfl (lv_room hst) hdg (by rw [B.2.1]; exact ⟨hc, hs⟩)
theorem g_callL (B : BL K b L xs) (f : Nat) (hf : 0 < oCnt f) {a : Nat} (hb : adr (fX K) σ f 0 = a) {ci : Nat} {fs : List Value} (he : el (fX K) σ f 0 = .inr (ci, fs)) {C : String} {T : u_T} {N i n : Nat} (hcl : vwCl[ci]? = some (C, T, N))
    {y' : MethodName} {cc' : ByteArray} {maxL' fr' lo' mc' ms' : Nat} {ret' : Option FieldType} {As : List Value} {Qm' : Option Value → Mem → Prop} (hM : MetG (fL K) (fX K) y' cc' maxL' ret' fr' lo' mc' ms' (.ref a :: As) σ Qm' (fun _ _ => False))
    (hcode : Cond.code y' cc' maxL' ret' ∈ lw_good) (hlink : Cond.methodLink "YarnMillLaw" i y' ∈ lw_good) (hinst : Cond.instanceMethod y' ∈ lw_good) (hsel : Cond.selects C y' y' ∈ lw_good) (hini : Cond.initialized C ∈ lw_good)
    (hd : y'.cls = C ∧ y'.cls ≠ "java/lang/invoke/MethodHandle" ∧ y'.cls ≠ "java/lang/invoke/VarHandle" ∧ (parseMethodDescriptor y'.desc).map (fun d => d.parameters.length) = some n) (hn : As.length = n) (hfr : fr' + 1 ≤ 2048) (hlo : 8 + (maxL' + 11) + lo' ≤ 94400) (hst : (st.map fun v => v.category).sum ≤ 8) (hdg : decode cL_law pc = .ok (.invokevirtual i, 3))
    (hc : cells + mc' ≤ 603072) (hs : slots + ms' ≤ 7202922)
    {np : Nat} (hp : pc + 3 = np) (kk : ∀ (r : Option Value) (σ' : Mem), Qm' r σ' → Go K (cells + mc') (slots + ms') σ' np lv (r.toList ++ st)) : Go K cells slots σ pc lv (As.reverse ++ .ref a :: st) := by
  subst hp
  refine g_ranN (a := (Value.ref a :: As).toArray) (fun H locs ls hC hD hS hL => ?_) rfl kk
  subst hb
  have hP : va_P (xD (fX K)) vwCl [(adr (fX K) σ f 0, .inr (ci, fs))] H := by
    intro j q hq
    match j, hq with
    | 0, hq => cases hq; rw [← he]; exact hC f 0 hf
    | j + 1, hq => simp at hq
  have F := B.1
  have hT : GoodIn lw_good (wsV "YarnMillLaw" i C y' (Cond.code y' cc' maxL' ret' :: lw_good)) := by
    intro w hw
    have h2 : w ∈ lw_good := by
      unfold wsV at hw
      simp only [List.cons_append, List.nil_append, List.mem_cons] at hw
      rcases hw with e | e | e | e | e | e
      · rw [e]; exact hlink
      · rw [e]; exact hinst
      · rw [e]; exact hsel
      · rw [e]; exact hini
      · rw [e]; exact hcode
      · exact e
    exact ⟨h2, good_of_word (List.mem_filter.mp h2).2⟩
  have hfx : CallFix (fP K) (fM K) (fC K) cL_law 9 (fS K) (fA K) lw_good "YarnMillLaw" := ⟨F.x, F.b, F.ml.trans F.n, F.o, F.w⟩
  exact va_runV hfx hM.met (cwV n F.w hT rfl rfl rfl hd ⟨by rw [B.2.1]; exact hfr, by rw [B.2.1]; exact hlo⟩)
    ⟨fun a U g mk q => ⟨q.1, q.2.moved (State.WarmedH.refl U) rfl⟩, va_recv (q0 := 0) F.k hP hcl rfl, fun U hU hW => ⟨rfl, bd_wd F hC hD hS hU hW⟩⟩ rfl hn (hL.1.trans F.n) rfl (lv_room hst) hdg (by rw [B.2.1]; exact ⟨hc, hs⟩)
end LC
theorem lcmp_self (a : Int64) : lg_cmp a a = 0 := by
  unfold lg_cmp
  simp
theorem b_69 : Cond.initialized "YarnMillLaw" ∈ lw_good := bB 69 (by decide +kernel) (by decide +kernel)
theorem b_434 : Cond.methodLink "YarnMillLaw" 182 yX12_baleCount ∈ lw_good := bB 434 (by decide +kernel) (by decide +kernel)
theorem b_435 : Cond.instanceMethod yX12_baleCount ∈ lw_good := bB 435 (by decide +kernel) (by decide +kernel)
theorem b_436 : Cond.selects "YarnMill" yX12_baleCount yX12_baleCount ∈ lw_good := bB 436 (by decide +kernel) (by decide +kernel)
theorem b_437 : Cond.code yX12_baleCount cX12_baleCount 1 (some .int) ∈ lw_good := bB 437 (by decide +kernel) (by decide +kernel)
theorem b_442 : Cond.methodLink "YarnMillLaw" 210 yX12_orderCount ∈ lw_good := bB 442 (by decide +kernel) (by decide +kernel)
theorem b_443 : Cond.instanceMethod yX12_orderCount ∈ lw_good := bB 443 (by decide +kernel) (by decide +kernel)
theorem b_444 : Cond.selects "YarnMill" yX12_orderCount yX12_orderCount ∈ lw_good := bB 444 (by decide +kernel) (by decide +kernel)
theorem b_445 : Cond.code yX12_orderCount cX12_orderCount 1 (some .int) ∈ lw_good := bB 445 (by decide +kernel) (by decide +kernel)
theorem b_446 : Cond.methodLink "YarnMillLaw" 229 yX12_kinds ∈ lw_good := bB 446 (by decide +kernel) (by decide +kernel)
theorem b_447 : Cond.instanceMethod yX12_kinds ∈ lw_good := bB 447 (by decide +kernel) (by decide +kernel)
theorem b_448 : Cond.selects "YarnMill" yX12_kinds yX12_kinds ∈ lw_good := bB 448 (by decide +kernel) (by decide +kernel)
theorem b_449 : Cond.code yX12_kinds cX12_kinds 1 (some .int) ∈ lw_good := bB 449 (by decide +kernel) (by decide +kernel)
theorem b_463 : Cond.methodLink "YarnMillLaw" 236 yX12_shortestTime ∈ lw_good := bB 463 (by decide +kernel) (by decide +kernel)
theorem b_464 : Cond.instanceMethod yX12_shortestTime ∈ lw_good := bB 464 (by decide +kernel) (by decide +kernel)
theorem b_465 : Cond.selects "YarnMill" yX12_shortestTime yX12_shortestTime ∈ lw_good := bB 465 (by decide +kernel) (by decide +kernel)
theorem b_466 : Cond.code yX12_shortestTime cX12_shortestTime 1 (some .int) ∈ lw_good := bB 466 (by decide +kernel) (by decide +kernel)
theorem b_485 : Cond.methodLink "YarnMillLaw" 240 yX12_shortestTimeBySearch ∈ lw_good := bB 485 (by decide +kernel) (by decide +kernel)
theorem b_486 : Cond.instanceMethod yX12_shortestTimeBySearch ∈ lw_good := bB 486 (by decide +kernel) (by decide +kernel)
theorem b_487 : Cond.selects "YarnMill" yX12_shortestTimeBySearch yX12_shortestTimeBySearch ∈ lw_good := bB 487 (by decide +kernel) (by decide +kernel)
theorem b_488 : Cond.code yX12_shortestTimeBySearch cX12_shortestTimeBySearch 1 (some .int) ∈ lw_good := bB 488 (by decide +kernel) (by decide +kernel)
theorem b_509 : Cond.methodLink "YarnMillLaw" 244 yX12_pieceCount ∈ lw_good := bB 509 (by decide +kernel) (by decide +kernel)
theorem b_510 : Cond.instanceMethod yX12_pieceCount ∈ lw_good := bB 510 (by decide +kernel) (by decide +kernel)
theorem b_511 : Cond.selects "YarnMill" yX12_pieceCount yX12_pieceCount ∈ lw_good := bB 511 (by decide +kernel) (by decide +kernel)
theorem b_512 : Cond.code yX12_pieceCount cX12_pieceCount 1 (some .int) ∈ lw_good := bB 512 (by decide +kernel) (by decide +kernel)
theorem b_513 : Cond.methodLink "YarnMillLaw" 260 yX12_spliceCost ∈ lw_good := bB 513 (by decide +kernel) (by decide +kernel)
theorem b_514 : Cond.instanceMethod yX12_spliceCost ∈ lw_good := bB 514 (by decide +kernel) (by decide +kernel)
theorem b_515 : Cond.selects "YarnMill" yX12_spliceCost yX12_spliceCost ∈ lw_good := bB 515 (by decide +kernel) (by decide +kernel)
theorem b_516 : Cond.code yX12_spliceCost cX12_spliceCost 1 (some .int) ∈ lw_good := bB 516 (by decide +kernel) (by decide +kernel)
theorem b_535 : Cond.methodLink "YarnMillLaw" 264 yX12_spliceCostByMemory ∈ lw_good := bB 535 (by decide +kernel) (by decide +kernel)
theorem b_536 : Cond.instanceMethod yX12_spliceCostByMemory ∈ lw_good := bB 536 (by decide +kernel) (by decide +kernel)
theorem b_537 : Cond.selects "YarnMill" yX12_spliceCostByMemory yX12_spliceCostByMemory ∈ lw_good := bB 537 (by decide +kernel) (by decide +kernel)
theorem b_538 : Cond.code yX12_spliceCostByMemory cX12_spliceCostByMemory 1 (some .int) ∈ lw_good := bB 538 (by decide +kernel) (by decide +kernel)
theorem b_546 : Cond.methodLink "YarnMillLaw" 268 yX12_roving ∈ lw_good := bB 546 (by decide +kernel) (by decide +kernel)
theorem b_547 : Cond.instanceMethod yX12_roving ∈ lw_good := bB 547 (by decide +kernel) (by decide +kernel)
theorem b_548 : Cond.selects "YarnMill" yX12_roving yX12_roving ∈ lw_good := bB 548 (by decide +kernel) (by decide +kernel)
theorem b_549 : Cond.code yX12_roving cX12_roving 1 (some .int) ∈ lw_good := bB 549 (by decide +kernel) (by decide +kernel)
theorem b_550 : Cond.methodLink "YarnMillLaw" 272 yX12_machines ∈ lw_good := bB 550 (by decide +kernel) (by decide +kernel)
theorem b_551 : Cond.instanceMethod yX12_machines ∈ lw_good := bB 551 (by decide +kernel) (by decide +kernel)
theorem b_552 : Cond.selects "YarnMill" yX12_machines yX12_machines ∈ lw_good := bB 552 (by decide +kernel) (by decide +kernel)
theorem b_553 : Cond.code yX12_machines cX12_machines 1 (some .int) ∈ lw_good := bB 553 (by decide +kernel) (by decide +kernel)
theorem b_554 : Cond.methodLink "YarnMillLaw" 276 yX12_clock ∈ lw_good := bB 554 (by decide +kernel) (by decide +kernel)
theorem b_555 : Cond.instanceMethod yX12_clock ∈ lw_good := bB 555 (by decide +kernel) (by decide +kernel)
theorem b_556 : Cond.selects "YarnMill" yX12_clock yX12_clock ∈ lw_good := bB 556 (by decide +kernel) (by decide +kernel)
theorem b_557 : Cond.code yX12_clock cX12_clock 1 (some .int) ∈ lw_good := bB 557 (by decide +kernel) (by decide +kernel)
theorem b_558 : Cond.methodLink "YarnMillLaw" 280 yX12_coins ∈ lw_good := bB 558 (by decide +kernel) (by decide +kernel)
theorem b_559 : Cond.instanceMethod yX12_coins ∈ lw_good := bB 559 (by decide +kernel) (by decide +kernel)
theorem b_560 : Cond.selects "YarnMill" yX12_coins yX12_coins ∈ lw_good := bB 560 (by decide +kernel) (by decide +kernel)
theorem b_561 : Cond.code yX12_coins cX12_coins 1 (some .int) ∈ lw_good := bB 561 (by decide +kernel) (by decide +kernel)
theorem b_562 : Cond.methodLink "YarnMillLaw" 284 yX12_coinsByAccounts ∈ lw_good := bB 562 (by decide +kernel) (by decide +kernel)
theorem b_563 : Cond.instanceMethod yX12_coinsByAccounts ∈ lw_good := bB 563 (by decide +kernel) (by decide +kernel)
theorem b_564 : Cond.selects "YarnMill" yX12_coinsByAccounts yX12_coinsByAccounts ∈ lw_good := bB 564 (by decide +kernel) (by decide +kernel)
theorem b_565 : Cond.code yX12_coinsByAccounts cX12_coinsByAccounts 1 (some .int) ∈ lw_good := bB 565 (by decide +kernel) (by decide +kernel)
theorem b_570 : Cond.methodLink "YarnMillLaw" 288 yX12_spunTotal ∈ lw_good := bB 570 (by decide +kernel) (by decide +kernel)
theorem b_571 : Cond.instanceMethod yX12_spunTotal ∈ lw_good := bB 571 (by decide +kernel) (by decide +kernel)
theorem b_572 : Cond.selects "YarnMill" yX12_spunTotal yX12_spunTotal ∈ lw_good := bB 572 (by decide +kernel) (by decide +kernel)
theorem b_573 : Cond.code yX12_spunTotal cX12_spunTotal 1 (some .int) ∈ lw_good := bB 573 (by decide +kernel) (by decide +kernel)
theorem b_574 : Cond.methodLink "YarnMillLaw" 292 yX12_wasteTotal ∈ lw_good := bB 574 (by decide +kernel) (by decide +kernel)
theorem b_575 : Cond.instanceMethod yX12_wasteTotal ∈ lw_good := bB 575 (by decide +kernel) (by decide +kernel)
theorem b_576 : Cond.selects "YarnMill" yX12_wasteTotal yX12_wasteTotal ∈ lw_good := bB 576 (by decide +kernel) (by decide +kernel)
theorem b_577 : Cond.code yX12_wasteTotal cX12_wasteTotal 1 (some .int) ∈ lw_good := bB 577 (by decide +kernel) (by decide +kernel)
theorem b_578 : Cond.methodLink "YarnMillLaw" 296 yX12_soldTotal ∈ lw_good := bB 578 (by decide +kernel) (by decide +kernel)
theorem b_579 : Cond.instanceMethod yX12_soldTotal ∈ lw_good := bB 579 (by decide +kernel) (by decide +kernel)
theorem b_580 : Cond.selects "YarnMill" yX12_soldTotal yX12_soldTotal ∈ lw_good := bB 580 (by decide +kernel) (by decide +kernel)
theorem b_581 : Cond.code yX12_soldTotal cX12_soldTotal 1 (some .int) ∈ lw_good := bB 581 (by decide +kernel) (by decide +kernel)
theorem b_582 : Cond.methodLink "YarnMillLaw" 300 yX12_shelfLength ∈ lw_good := bB 582 (by decide +kernel) (by decide +kernel)
theorem b_583 : Cond.instanceMethod yX12_shelfLength ∈ lw_good := bB 583 (by decide +kernel) (by decide +kernel)
theorem b_584 : Cond.selects "YarnMill" yX12_shelfLength yX12_shelfLength ∈ lw_good := bB 584 (by decide +kernel) (by decide +kernel)
theorem b_585 : Cond.code yX12_shelfLength cX12_shelfLength 1 (some .int) ∈ lw_good := bB 585 (by decide +kernel) (by decide +kernel)
theorem b_590 : Cond.methodLink "YarnMillLaw" 304 yX12_shelfLengthByAccounts ∈ lw_good := bB 590 (by decide +kernel) (by decide +kernel)
theorem b_591 : Cond.instanceMethod yX12_shelfLengthByAccounts ∈ lw_good := bB 591 (by decide +kernel) (by decide +kernel)
theorem b_592 : Cond.selects "YarnMill" yX12_shelfLengthByAccounts yX12_shelfLengthByAccounts ∈ lw_good := bB 592 (by decide +kernel) (by decide +kernel)
theorem b_593 : Cond.code yX12_shelfLengthByAccounts cX12_shelfLengthByAccounts 1 (some .int) ∈ lw_good := bB 593 (by decide +kernel) (by decide +kernel)
theorem b_598 : Cond.methodLink "YarnMillLaw" 315 yX12_isConsistent ∈ lw_good := bB 598 (by decide +kernel) (by decide +kernel)
theorem b_599 : Cond.instanceMethod yX12_isConsistent ∈ lw_good := bB 599 (by decide +kernel) (by decide +kernel)
theorem b_600 : Cond.selects "YarnMill" yX12_isConsistent yX12_isConsistent ∈ lw_good := bB 600 (by decide +kernel) (by decide +kernel)
theorem b_601 : Cond.code yX12_isConsistent cX12_isConsistent 1 (some .boolean) ∈ lw_good := bB 601 (by decide +kernel) (by decide +kernel)
theorem b_632 : Cond.methodLink "YarnMillLaw" 320 yX12_renderShelf ∈ lw_good := bB 632 (by decide +kernel) (by decide +kernel)
theorem b_633 : Cond.instanceMethod yX12_renderShelf ∈ lw_good := bB 633 (by decide +kernel) (by decide +kernel)
theorem b_634 : Cond.selects "YarnMill" yX12_renderShelf yX12_renderShelf ∈ lw_good := bB 634 (by decide +kernel) (by decide +kernel)
theorem b_635 : Cond.code yX12_renderShelf cX12_renderShelf 2 (some .int) ∈ lw_good := bB 635 (by decide +kernel) (by decide +kernel)
theorem b_1004 : Cond.methodLink "YarnMillLaw" 346 yX12_save ∈ lw_good := bB 1004 (by decide +kernel) (by decide +kernel)
theorem b_1005 : Cond.instanceMethod yX12_save ∈ lw_good := bB 1005 (by decide +kernel) (by decide +kernel)
theorem b_1006 : Cond.selects "YarnMill" yX12_save yX12_save ∈ lw_good := bB 1006 (by decide +kernel) (by decide +kernel)
theorem b_1007 : Cond.code yX12_save cX12_save 1 (some .int) ∈ lw_good := bB 1007 (by decide +kernel) (by decide +kernel)
theorem b_1028 : Cond.methodLink "YarnMillLaw" 146 yL_buyBale ∈ lw_good := bB 1028 (by decide +kernel) (by decide +kernel)
theorem b_1029 : Cond.static yL_buyBale ∈ lw_good := bB 1029 (by decide +kernel) (by decide +kernel)
theorem b_1030 : Cond.codeWith yL_buyBale cL_buyBale 6 (some .int) [(0, 12, 15, 13), (0, 12, 19, 15), (0, 12, 23, 17)] ∈ lw_good := bB 1030 (by decide +kernel) (by decide +kernel)
theorem b_1280 : Cond.methodLink "YarnMillLaw" 155 yL_blend ∈ lw_good := bB 1280 (by decide +kernel) (by decide +kernel)
theorem b_1281 : Cond.static yL_blend ∈ lw_good := bB 1281 (by decide +kernel) (by decide +kernel)
theorem b_1282 : Cond.codeWith yL_blend cL_blend 5 (some .int) [(0, 10, 13, 13), (0, 10, 17, 17), (0, 10, 21, 15)] ∈ lw_good := bB 1282 (by decide +kernel) (by decide +kernel)
theorem b_1289 : Cond.methodLink "YarnMillLaw" 159 yL_addOrder ∈ lw_good := bB 1289 (by decide +kernel) (by decide +kernel)
theorem b_1290 : Cond.static yL_addOrder ∈ lw_good := bB 1290 (by decide +kernel) (by decide +kernel)
theorem b_1291 : Cond.codeWith yL_addOrder cL_addOrder 5 (some .int) [(0, 10, 13, 13), (0, 10, 17, 15)] ∈ lw_good := bB 1291 (by decide +kernel) (by decide +kernel)
theorem b_1298 : Cond.methodLink "YarnMillLaw" 162 yL_cancelOrder ∈ lw_good := bB 1298 (by decide +kernel) (by decide +kernel)
theorem b_1299 : Cond.static yL_cancelOrder ∈ lw_good := bB 1299 (by decide +kernel) (by decide +kernel)
theorem b_1300 : Cond.codeWith yL_cancelOrder cL_cancelOrder 4 (some .int) [(0, 9, 12, 30)] ∈ lw_good := bB 1300 (by decide +kernel) (by decide +kernel)
theorem b_1308 : Cond.methodLink "YarnMillLaw" 166 yL_setMachines ∈ lw_good := bB 1308 (by decide +kernel) (by decide +kernel)
theorem b_1309 : Cond.static yL_setMachines ∈ lw_good := bB 1309 (by decide +kernel) (by decide +kernel)
theorem b_1310 : Cond.codeWith yL_setMachines cL_setMachines 4 (some .int) [(0, 9, 12, 13)] ∈ lw_good := bB 1310 (by decide +kernel) (by decide +kernel)
theorem b_1317 : Cond.methodLink "YarnMillLaw" 169 yL_spin ∈ lw_good := bB 1317 (by decide +kernel) (by decide +kernel)
theorem b_1318 : Cond.static yL_spin ∈ lw_good := bB 1318 (by decide +kernel) (by decide +kernel)
theorem b_1319 : Cond.codeWith yL_spin cL_spin 4 (some .int) [(0, 9, 12, 30), (0, 9, 15, 17), (0, 9, 18, 15)] ∈ lw_good := bB 1319 (by decide +kernel) (by decide +kernel)
theorem b_1326 : Cond.methodLink "YarnMillLaw" 172 yL_splice ∈ lw_good := bB 1326 (by decide +kernel) (by decide +kernel)
theorem b_1327 : Cond.static yL_splice ∈ lw_good := bB 1327 (by decide +kernel) (by decide +kernel)
theorem b_1328 : Cond.codeWith yL_splice cL_splice 4 (some .int) [(0, 9, 12, 41)] ∈ lw_good := bB 1328 (by decide +kernel) (by decide +kernel)
theorem b_1338 : Cond.methodLink "YarnMillLaw" 175 yL_spliceAll ∈ lw_good := bB 1338 (by decide +kernel) (by decide +kernel)
theorem b_1339 : Cond.static yL_spliceAll ∈ lw_good := bB 1339 (by decide +kernel) (by decide +kernel)
theorem b_1340 : Cond.codeWith yL_spliceAll cL_spliceAll 3 (some .int) [(0, 8, 11, 15)] ∈ lw_good := bB 1340 (by decide +kernel) (by decide +kernel)
theorem b_1347 : Cond.methodLink "YarnMillLaw" 179 yL_sell ∈ lw_good := bB 1347 (by decide +kernel) (by decide +kernel)
theorem b_1348 : Cond.static yL_sell ∈ lw_good := bB 1348 (by decide +kernel) (by decide +kernel)
theorem b_1349 : Cond.codeWith yL_sell cL_sell 4 (some .int) [(0, 9, 12, 41)] ∈ lw_good := bB 1349 (by decide +kernel) (by decide +kernel)
theorem b_1356 : Cond.methodLink "YarnMillLaw" 186 yL_baleAt ∈ lw_good := bB 1356 (by decide +kernel) (by decide +kernel)
theorem b_1357 : Cond.static yL_baleAt ∈ lw_good := bB 1357 (by decide +kernel) (by decide +kernel)
theorem b_1358 : Cond.codeWith yL_baleAt cL_baleAt 4 (some .int) [(0, 9, 12, 30)] ∈ lw_good := bB 1358 (by decide +kernel) (by decide +kernel)
theorem b_1364 : Cond.methodLink "YarnMillLaw" 189 yL_weight ∈ lw_good := bB 1364 (by decide +kernel) (by decide +kernel)
theorem b_1365 : Cond.static yL_weight ∈ lw_good := bB 1365 (by decide +kernel) (by decide +kernel)
theorem b_1366 : Cond.codeWith yL_weight cL_weight 4 (some .int) [(0, 9, 12, 30)] ∈ lw_good := bB 1366 (by decide +kernel) (by decide +kernel)
theorem b_1376 : Cond.methodLink "YarnMillLaw" 192 yL_staple ∈ lw_good := bB 1376 (by decide +kernel) (by decide +kernel)
theorem b_1377 : Cond.static yL_staple ∈ lw_good := bB 1377 (by decide +kernel) (by decide +kernel)
theorem b_1378 : Cond.codeWith yL_staple cL_staple 4 (some .int) [(0, 9, 12, 30)] ∈ lw_good := bB 1378 (by decide +kernel) (by decide +kernel)
theorem b_1383 : Cond.methodLink "YarnMillLaw" 195 yL_price ∈ lw_good := bB 1383 (by decide +kernel) (by decide +kernel)
theorem b_1384 : Cond.static yL_price ∈ lw_good := bB 1384 (by decide +kernel) (by decide +kernel)
theorem b_1385 : Cond.codeWith yL_price cL_price 4 (some .int) [(0, 9, 12, 30)] ∈ lw_good := bB 1385 (by decide +kernel) (by decide +kernel)
theorem b_1390 : Cond.methodLink "YarnMillLaw" 198 yL_baleByValue ∈ lw_good := bB 1390 (by decide +kernel) (by decide +kernel)
theorem b_1391 : Cond.static yL_baleByValue ∈ lw_good := bB 1391 (by decide +kernel) (by decide +kernel)
theorem b_1392 : Cond.codeWith yL_baleByValue cL_baleByValue 4 (some .int) [(0, 9, 12, 30)] ∈ lw_good := bB 1392 (by decide +kernel) (by decide +kernel)
theorem b_1415 : Cond.methodLink "YarnMillLaw" 201 yL_blendValue ∈ lw_good := bB 1415 (by decide +kernel) (by decide +kernel)
theorem b_1416 : Cond.static yL_blendValue ∈ lw_good := bB 1416 (by decide +kernel) (by decide +kernel)
theorem b_1417 : Cond.codeWith yL_blendValue cL_blendValue 5 (some .int) [(0, 10, 13, 13), (0, 10, 17, 30)] ∈ lw_good := bB 1417 (by decide +kernel) (by decide +kernel)
theorem b_1430 : Cond.methodLink "YarnMillLaw" 204 yL_blendValueBySearch ∈ lw_good := bB 1430 (by decide +kernel) (by decide +kernel)
theorem b_1431 : Cond.static yL_blendValueBySearch ∈ lw_good := bB 1431 (by decide +kernel) (by decide +kernel)
theorem b_1432 : Cond.codeWith yL_blendValueBySearch cL_blendValueBySearch 5 (some .int) [(0, 10, 13, 13), (0, 10, 17, 30)] ∈ lw_good := bB 1432 (by decide +kernel) (by decide +kernel)
theorem b_1437 : Cond.methodLink "YarnMillLaw" 207 yL_isInBlend ∈ lw_good := bB 1437 (by decide +kernel) (by decide +kernel)
theorem b_1438 : Cond.static yL_isInBlend ∈ lw_good := bB 1438 (by decide +kernel) (by decide +kernel)
theorem b_1439 : Cond.codeWith yL_isInBlend cL_isInBlend 6 (some .int) [(0, 19, 22, 30), (0, 19, 26, 13), (0, 19, 30, 17)] ∈ lw_good := bB 1439 (by decide +kernel) (by decide +kernel)
theorem b_1444 : Cond.methodLink "YarnMillLaw" 214 yL_orderAt ∈ lw_good := bB 1444 (by decide +kernel) (by decide +kernel)
theorem b_1445 : Cond.static yL_orderAt ∈ lw_good := bB 1445 (by decide +kernel) (by decide +kernel)
theorem b_1446 : Cond.codeWith yL_orderAt cL_orderAt 4 (some .int) [(0, 9, 12, 30)] ∈ lw_good := bB 1446 (by decide +kernel) (by decide +kernel)
theorem b_1452 : Cond.methodLink "YarnMillLaw" 217 yL_lengthOf ∈ lw_good := bB 1452 (by decide +kernel) (by decide +kernel)
theorem b_1453 : Cond.static yL_lengthOf ∈ lw_good := bB 1453 (by decide +kernel) (by decide +kernel)
theorem b_1454 : Cond.codeWith yL_lengthOf cL_lengthOf 4 (some .int) [(0, 9, 12, 30)] ∈ lw_good := bB 1454 (by decide +kernel) (by decide +kernel)
theorem b_1463 : Cond.methodLink "YarnMillLaw" 220 yL_twistOf ∈ lw_good := bB 1463 (by decide +kernel) (by decide +kernel)
theorem b_1464 : Cond.static yL_twistOf ∈ lw_good := bB 1464 (by decide +kernel) (by decide +kernel)
theorem b_1465 : Cond.codeWith yL_twistOf cL_twistOf 4 (some .int) [(0, 9, 12, 30)] ∈ lw_good := bB 1465 (by decide +kernel) (by decide +kernel)
theorem b_1470 : Cond.methodLink "YarnMillLaw" 223 yL_minutesOf ∈ lw_good := bB 1470 (by decide +kernel) (by decide +kernel)
theorem b_1471 : Cond.static yL_minutesOf ∈ lw_good := bB 1471 (by decide +kernel) (by decide +kernel)
theorem b_1472 : Cond.codeWith yL_minutesOf cL_minutesOf 4 (some .int) [(0, 9, 12, 30)] ∈ lw_good := bB 1472 (by decide +kernel) (by decide +kernel)
theorem b_1477 : Cond.methodLink "YarnMillLaw" 226 yL_canSpin ∈ lw_good := bB 1477 (by decide +kernel) (by decide +kernel)
theorem b_1478 : Cond.static yL_canSpin ∈ lw_good := bB 1478 (by decide +kernel) (by decide +kernel)
theorem b_1479 : Cond.codeWith yL_canSpin cL_canSpin 4 (some .int) [(0, 16, 19, 30)] ∈ lw_good := bB 1479 (by decide +kernel) (by decide +kernel)
theorem b_1484 : Cond.methodLink "YarnMillLaw" 233 yL_orderByTime ∈ lw_good := bB 1484 (by decide +kernel) (by decide +kernel)
theorem b_1485 : Cond.static yL_orderByTime ∈ lw_good := bB 1485 (by decide +kernel) (by decide +kernel)
theorem b_1486 : Cond.codeWith yL_orderByTime cL_orderByTime 4 (some .int) [(0, 9, 12, 30)] ∈ lw_good := bB 1486 (by decide +kernel) (by decide +kernel)
theorem b_1496 : Cond.methodLink "YarnMillLaw" 248 yL_pieceLength ∈ lw_good := bB 1496 (by decide +kernel) (by decide +kernel)
theorem b_1497 : Cond.static yL_pieceLength ∈ lw_good := bB 1497 (by decide +kernel) (by decide +kernel)
theorem b_1498 : Cond.codeWith yL_pieceLength cL_pieceLength 4 (some .int) [(0, 9, 12, 41)] ∈ lw_good := bB 1498 (by decide +kernel) (by decide +kernel)
theorem b_1507 : Cond.methodLink "YarnMillLaw" 251 yL_longestPiece ∈ lw_good := bB 1507 (by decide +kernel) (by decide +kernel)
theorem b_1508 : Cond.static yL_longestPiece ∈ lw_good := bB 1508 (by decide +kernel) (by decide +kernel)
theorem b_1509 : Cond.codeWith yL_longestPiece cL_longestPiece 3 (some .int) [(0, 8, 11, 30)] ∈ lw_good := bB 1509 (by decide +kernel) (by decide +kernel)
theorem b_1519 : Cond.methodLink "YarnMillLaw" 254 yL_pieceByLength ∈ lw_good := bB 1519 (by decide +kernel) (by decide +kernel)
theorem b_1520 : Cond.static yL_pieceByLength ∈ lw_good := bB 1520 (by decide +kernel) (by decide +kernel)
theorem b_1521 : Cond.codeWith yL_pieceByLength cL_pieceByLength 4 (some .int) [(0, 9, 12, 30)] ∈ lw_good := bB 1521 (by decide +kernel) (by decide +kernel)
theorem b_1526 : Cond.methodLink "YarnMillLaw" 257 yL_worthOf ∈ lw_good := bB 1526 (by decide +kernel) (by decide +kernel)
theorem b_1527 : Cond.static yL_worthOf ∈ lw_good := bB 1527 (by decide +kernel) (by decide +kernel)
theorem b_1528 : Cond.codeWith yL_worthOf cL_worthOf 4 (some .int) [(0, 9, 12, 41)] ∈ lw_good := bB 1528 (by decide +kernel) (by decide +kernel)
theorem b_1534 : Cond.methodLink "YarnMillLaw" 308 yL_meanLength ∈ lw_good := bB 1534 (by decide +kernel) (by decide +kernel)
theorem b_1535 : Cond.static yL_meanLength ∈ lw_good := bB 1535 (by decide +kernel) (by decide +kernel)
theorem b_1536 : Cond.codeWith yL_meanLength cL_meanLength 3 (some .int) [(0, 7, 10, 110)] ∈ lw_good := bB 1536 (by decide +kernel) (by decide +kernel)
theorem b_1561 : Cond.methodLink "YarnMillLaw" 312 yL_longShare ∈ lw_good := bB 1561 (by decide +kernel) (by decide +kernel)
theorem b_1562 : Cond.static yL_longShare ∈ lw_good := bB 1562 (by decide +kernel) (by decide +kernel)
theorem b_1563 : Cond.codeWith yL_longShare cL_longShare 3 (some .int) [(0, 8, 11, 110)] ∈ lw_good := bB 1563 (by decide +kernel) (by decide +kernel)
theorem b_1572 : Cond.methodLink "YarnMillLaw" 324 yL_renderOrder ∈ lw_good := bB 1572 (by decide +kernel) (by decide +kernel)
theorem b_1573 : Cond.static yL_renderOrder ∈ lw_good := bB 1573 (by decide +kernel) (by decide +kernel)
theorem b_1574 : Cond.codeWith yL_renderOrder cL_renderOrder 4 (some .int) [(0, 9, 12, 30)] ∈ lw_good := bB 1574 (by decide +kernel) (by decide +kernel)
theorem b_1581 : Cond.methodLink "YarnMillLaw" 327 yL_outputAt ∈ lw_good := bB 1581 (by decide +kernel) (by decide +kernel)
theorem b_1582 : Cond.static yL_outputAt ∈ lw_good := bB 1582 (by decide +kernel) (by decide +kernel)
theorem b_1583 : Cond.codeWith yL_outputAt cL_outputAt 4 (some .int) [(0, 9, 12, 41)] ∈ lw_good := bB 1583 (by decide +kernel) (by decide +kernel)
theorem b_1599 : Cond.methodLink "YarnMillLaw" 330 yL_type ∈ lw_good := bB 1599 (by decide +kernel) (by decide +kernel)
theorem b_1600 : Cond.static yL_type ∈ lw_good := bB 1600 (by decide +kernel) (by decide +kernel)
theorem b_1601 : Cond.codeWith yL_type cL_type 4 (some .int) [(0, 9, 12, 13), (0, 9, 15, 15)] ∈ lw_good := bB 1601 (by decide +kernel) (by decide +kernel)
theorem b_1618 : Cond.methodLink "YarnMillLaw" 334 yL_runScript ∈ lw_good := bB 1618 (by decide +kernel) (by decide +kernel)
theorem b_1619 : Cond.static yL_runScript ∈ lw_good := bB 1619 (by decide +kernel) (by decide +kernel)
theorem b_1620 : Cond.codeWith yL_runScript cL_runScript 3 (some .int) [(0, 8, 11, 13), (0, 8, 14, 15)] ∈ lw_good := bB 1620 (by decide +kernel) (by decide +kernel)
theorem b_1700 : Cond.methodLink "YarnMillLaw" 337 yL_errorPosition ∈ lw_good := bB 1700 (by decide +kernel) (by decide +kernel)
theorem b_1701 : Cond.static yL_errorPosition ∈ lw_good := bB 1701 (by decide +kernel) (by decide +kernel)
theorem b_1702 : Cond.codeWith yL_errorPosition cL_errorPosition 3 (some .int) [(0, 8, 11, 30)] ∈ lw_good := bB 1702 (by decide +kernel) (by decide +kernel)
theorem b_1708 : Cond.methodLink "YarnMillLaw" 340 yL_failedCommand ∈ lw_good := bB 1708 (by decide +kernel) (by decide +kernel)
theorem b_1709 : Cond.static yL_failedCommand ∈ lw_good := bB 1709 (by decide +kernel) (by decide +kernel)
theorem b_1710 : Cond.codeWith yL_failedCommand cL_failedCommand 3 (some .int) [(0, 8, 11, 30)] ∈ lw_good := bB 1710 (by decide +kernel) (by decide +kernel)
theorem b_1716 : Cond.methodLink "YarnMillLaw" 343 yL_undo ∈ lw_good := bB 1716 (by decide +kernel) (by decide +kernel)
theorem b_1717 : Cond.static yL_undo ∈ lw_good := bB 1717 (by decide +kernel) (by decide +kernel)
theorem b_1718 : Cond.codeWith yL_undo cL_undo 3 (some .int) [(0, 8, 11, 30)] ∈ lw_good := bB 1718 (by decide +kernel) (by decide +kernel)
theorem b_1732 : Cond.methodLink "YarnMillLaw" 350 yL_restore ∈ lw_good := bB 1732 (by decide +kernel) (by decide +kernel)
theorem b_1733 : Cond.static yL_restore ∈ lw_good := bB 1733 (by decide +kernel) (by decide +kernel)
theorem b_1734 : Cond.codeWith yL_restore cL_restore 3 (some .int) [(0, 8, 11, 15)] ∈ lw_good := bB 1734 (by decide +kernel) (by decide +kernel)
theorem b_1811 : Cond.methodLink "YarnMillLaw" 152 yX13_thrown ∈ lw_good := bB 1811 (by decide +kernel) (by decide +kernel)
theorem b_1812 : Cond.instanceMethod yX13_thrown ∈ lw_good := bB 1812 (by decide +kernel) (by decide +kernel)
theorem b_1813 : Cond.selects "YarnMillModel" yX13_thrown yX13_thrown ∈ lw_good := bB 1813 (by decide +kernel) (by decide +kernel)
theorem b_1814 : Cond.code yX13_thrown cX13_thrown 1 (some .int) ∈ lw_good := bB 1814 (by decide +kernel) (by decide +kernel)
theorem b_1815 : Cond.methodLink "YarnMillLaw" 151 yX13_buyBale ∈ lw_good := bB 1815 (by decide +kernel) (by decide +kernel)
theorem b_1816 : Cond.instanceMethod yX13_buyBale ∈ lw_good := bB 1816 (by decide +kernel) (by decide +kernel)
theorem b_1817 : Cond.selects "YarnMillModel" yX13_buyBale yX13_buyBale ∈ lw_good := bB 1817 (by decide +kernel) (by decide +kernel)
theorem b_1818 : Cond.code yX13_buyBale cX13_buyBale 4 (some .int) ∈ lw_good := bB 1818 (by decide +kernel) (by decide +kernel)
theorem b_1841 : Cond.methodLink "YarnMillLaw" 158 yX13_blend ∈ lw_good := bB 1841 (by decide +kernel) (by decide +kernel)
theorem b_1842 : Cond.instanceMethod yX13_blend ∈ lw_good := bB 1842 (by decide +kernel) (by decide +kernel)
theorem b_1843 : Cond.selects "YarnMillModel" yX13_blend yX13_blend ∈ lw_good := bB 1843 (by decide +kernel) (by decide +kernel)
theorem b_1844 : Cond.code yX13_blend cX13_blend 3 (some .int) ∈ lw_good := bB 1844 (by decide +kernel) (by decide +kernel)
theorem b_1872 : Cond.methodLink "YarnMillLaw" 161 yX13_addOrder ∈ lw_good := bB 1872 (by decide +kernel) (by decide +kernel)
theorem b_1873 : Cond.instanceMethod yX13_addOrder ∈ lw_good := bB 1873 (by decide +kernel) (by decide +kernel)
theorem b_1874 : Cond.selects "YarnMillModel" yX13_addOrder yX13_addOrder ∈ lw_good := bB 1874 (by decide +kernel) (by decide +kernel)
theorem b_1875 : Cond.code yX13_addOrder cX13_addOrder 3 (some .int) ∈ lw_good := bB 1875 (by decide +kernel) (by decide +kernel)
theorem b_1880 : Cond.methodLink "YarnMillLaw" 165 yX13_cancelOrder ∈ lw_good := bB 1880 (by decide +kernel) (by decide +kernel)
theorem b_1881 : Cond.instanceMethod yX13_cancelOrder ∈ lw_good := bB 1881 (by decide +kernel) (by decide +kernel)
theorem b_1882 : Cond.selects "YarnMillModel" yX13_cancelOrder yX13_cancelOrder ∈ lw_good := bB 1882 (by decide +kernel) (by decide +kernel)
theorem b_1883 : Cond.code yX13_cancelOrder cX13_cancelOrder 2 (some .int) ∈ lw_good := bB 1883 (by decide +kernel) (by decide +kernel)
theorem b_1896 : Cond.methodLink "YarnMillLaw" 168 yX13_setMachines ∈ lw_good := bB 1896 (by decide +kernel) (by decide +kernel)
theorem b_1897 : Cond.instanceMethod yX13_setMachines ∈ lw_good := bB 1897 (by decide +kernel) (by decide +kernel)
theorem b_1898 : Cond.selects "YarnMillModel" yX13_setMachines yX13_setMachines ∈ lw_good := bB 1898 (by decide +kernel) (by decide +kernel)
theorem b_1899 : Cond.code yX13_setMachines cX13_setMachines 2 (some .int) ∈ lw_good := bB 1899 (by decide +kernel) (by decide +kernel)
theorem b_1904 : Cond.methodLink "YarnMillLaw" 171 yX13_spin ∈ lw_good := bB 1904 (by decide +kernel) (by decide +kernel)
theorem b_1905 : Cond.instanceMethod yX13_spin ∈ lw_good := bB 1905 (by decide +kernel) (by decide +kernel)
theorem b_1906 : Cond.selects "YarnMillModel" yX13_spin yX13_spin ∈ lw_good := bB 1906 (by decide +kernel) (by decide +kernel)
theorem b_1907 : Cond.code yX13_spin cX13_spin 2 (some .int) ∈ lw_good := bB 1907 (by decide +kernel) (by decide +kernel)
theorem b_1916 : Cond.methodLink "YarnMillLaw" 174 yX13_splice ∈ lw_good := bB 1916 (by decide +kernel) (by decide +kernel)
theorem b_1917 : Cond.instanceMethod yX13_splice ∈ lw_good := bB 1917 (by decide +kernel) (by decide +kernel)
theorem b_1918 : Cond.selects "YarnMillModel" yX13_splice yX13_splice ∈ lw_good := bB 1918 (by decide +kernel) (by decide +kernel)
theorem b_1919 : Cond.code yX13_splice cX13_splice 2 (some .int) ∈ lw_good := bB 1919 (by decide +kernel) (by decide +kernel)
theorem b_1928 : Cond.methodLink "YarnMillLaw" 178 yX13_spliceAll ∈ lw_good := bB 1928 (by decide +kernel) (by decide +kernel)
theorem b_1929 : Cond.instanceMethod yX13_spliceAll ∈ lw_good := bB 1929 (by decide +kernel) (by decide +kernel)
theorem b_1930 : Cond.selects "YarnMillModel" yX13_spliceAll yX13_spliceAll ∈ lw_good := bB 1930 (by decide +kernel) (by decide +kernel)
theorem b_1931 : Cond.code yX13_spliceAll cX13_spliceAll 1 (some .int) ∈ lw_good := bB 1931 (by decide +kernel) (by decide +kernel)
theorem b_1945 : Cond.methodLink "YarnMillLaw" 181 yX13_sell ∈ lw_good := bB 1945 (by decide +kernel) (by decide +kernel)
theorem b_1946 : Cond.instanceMethod yX13_sell ∈ lw_good := bB 1946 (by decide +kernel) (by decide +kernel)
theorem b_1947 : Cond.selects "YarnMillModel" yX13_sell yX13_sell ∈ lw_good := bB 1947 (by decide +kernel) (by decide +kernel)
theorem b_1948 : Cond.code yX13_sell cX13_sell 2 (some .int) ∈ lw_good := bB 1948 (by decide +kernel) (by decide +kernel)
theorem b_1957 : Cond.methodLink "YarnMillLaw" 185 yX13_baleCount ∈ lw_good := bB 1957 (by decide +kernel) (by decide +kernel)
theorem b_1958 : Cond.instanceMethod yX13_baleCount ∈ lw_good := bB 1958 (by decide +kernel) (by decide +kernel)
theorem b_1959 : Cond.selects "YarnMillModel" yX13_baleCount yX13_baleCount ∈ lw_good := bB 1959 (by decide +kernel) (by decide +kernel)
theorem b_1960 : Cond.code yX13_baleCount cX13_baleCount 1 (some .int) ∈ lw_good := bB 1960 (by decide +kernel) (by decide +kernel)
theorem b_1961 : Cond.methodLink "YarnMillLaw" 188 yX13_baleAt ∈ lw_good := bB 1961 (by decide +kernel) (by decide +kernel)
theorem b_1962 : Cond.instanceMethod yX13_baleAt ∈ lw_good := bB 1962 (by decide +kernel) (by decide +kernel)
theorem b_1963 : Cond.selects "YarnMillModel" yX13_baleAt yX13_baleAt ∈ lw_good := bB 1963 (by decide +kernel) (by decide +kernel)
theorem b_1964 : Cond.code yX13_baleAt cX13_baleAt 2 (some .int) ∈ lw_good := bB 1964 (by decide +kernel) (by decide +kernel)
theorem b_1965 : Cond.methodLink "YarnMillLaw" 191 yX13_weight ∈ lw_good := bB 1965 (by decide +kernel) (by decide +kernel)
theorem b_1966 : Cond.instanceMethod yX13_weight ∈ lw_good := bB 1966 (by decide +kernel) (by decide +kernel)
theorem b_1967 : Cond.selects "YarnMillModel" yX13_weight yX13_weight ∈ lw_good := bB 1967 (by decide +kernel) (by decide +kernel)
theorem b_1968 : Cond.code yX13_weight cX13_weight 2 (some .int) ∈ lw_good := bB 1968 (by decide +kernel) (by decide +kernel)
theorem b_1977 : Cond.methodLink "YarnMillLaw" 194 yX13_staple ∈ lw_good := bB 1977 (by decide +kernel) (by decide +kernel)
theorem b_1978 : Cond.instanceMethod yX13_staple ∈ lw_good := bB 1978 (by decide +kernel) (by decide +kernel)
theorem b_1979 : Cond.selects "YarnMillModel" yX13_staple yX13_staple ∈ lw_good := bB 1979 (by decide +kernel) (by decide +kernel)
theorem b_1980 : Cond.code yX13_staple cX13_staple 2 (some .int) ∈ lw_good := bB 1980 (by decide +kernel) (by decide +kernel)
theorem b_1981 : Cond.methodLink "YarnMillLaw" 197 yX13_price ∈ lw_good := bB 1981 (by decide +kernel) (by decide +kernel)
theorem b_1982 : Cond.instanceMethod yX13_price ∈ lw_good := bB 1982 (by decide +kernel) (by decide +kernel)
theorem b_1983 : Cond.selects "YarnMillModel" yX13_price yX13_price ∈ lw_good := bB 1983 (by decide +kernel) (by decide +kernel)
theorem b_1984 : Cond.code yX13_price cX13_price 2 (some .int) ∈ lw_good := bB 1984 (by decide +kernel) (by decide +kernel)
theorem b_1985 : Cond.methodLink "YarnMillLaw" 200 yX13_baleByValue ∈ lw_good := bB 1985 (by decide +kernel) (by decide +kernel)
theorem b_1986 : Cond.instanceMethod yX13_baleByValue ∈ lw_good := bB 1986 (by decide +kernel) (by decide +kernel)
theorem b_1987 : Cond.selects "YarnMillModel" yX13_baleByValue yX13_baleByValue ∈ lw_good := bB 1987 (by decide +kernel) (by decide +kernel)
theorem b_1988 : Cond.code yX13_baleByValue cX13_baleByValue 5 (some .int) ∈ lw_good := bB 1988 (by decide +kernel) (by decide +kernel)
theorem b_1993 : Cond.methodLink "YarnMillLaw" 203 yX13_blendValue ∈ lw_good := bB 1993 (by decide +kernel) (by decide +kernel)
theorem b_1997 : Cond.methodLink "YarnMillLaw" 206 yX13_blendValueBySearch ∈ lw_good := bB 1997 (by decide +kernel) (by decide +kernel)
theorem b_1998 : Cond.instanceMethod yX13_blendValueBySearch ∈ lw_good := bB 1998 (by decide +kernel) (by decide +kernel)
theorem b_1999 : Cond.selects "YarnMillModel" yX13_blendValueBySearch yX13_blendValueBySearch ∈ lw_good := bB 1999 (by decide +kernel) (by decide +kernel)
theorem b_2000 : Cond.code yX13_blendValueBySearch cX13_blendValueBySearch 3 (some .int) ∈ lw_good := bB 2000 (by decide +kernel) (by decide +kernel)
theorem b_2002 : Cond.methodLink "YarnMillLaw" 209 yX13_isInBlend ∈ lw_good := bB 2002 (by decide +kernel) (by decide +kernel)
theorem b_2003 : Cond.instanceMethod yX13_isInBlend ∈ lw_good := bB 2003 (by decide +kernel) (by decide +kernel)
theorem b_2004 : Cond.selects "YarnMillModel" yX13_isInBlend yX13_isInBlend ∈ lw_good := bB 2004 (by decide +kernel) (by decide +kernel)
theorem b_2005 : Cond.code yX13_isInBlend cX13_isInBlend 5 (some .boolean) ∈ lw_good := bB 2005 (by decide +kernel) (by decide +kernel)
theorem b_2006 : Cond.methodLink "YarnMillLaw" 213 yX13_orderCount ∈ lw_good := bB 2006 (by decide +kernel) (by decide +kernel)
theorem b_2007 : Cond.instanceMethod yX13_orderCount ∈ lw_good := bB 2007 (by decide +kernel) (by decide +kernel)
theorem b_2008 : Cond.selects "YarnMillModel" yX13_orderCount yX13_orderCount ∈ lw_good := bB 2008 (by decide +kernel) (by decide +kernel)
theorem b_2009 : Cond.code yX13_orderCount cX13_orderCount 1 (some .int) ∈ lw_good := bB 2009 (by decide +kernel) (by decide +kernel)
theorem b_2010 : Cond.methodLink "YarnMillLaw" 216 yX13_orderAt ∈ lw_good := bB 2010 (by decide +kernel) (by decide +kernel)
theorem b_2011 : Cond.instanceMethod yX13_orderAt ∈ lw_good := bB 2011 (by decide +kernel) (by decide +kernel)
theorem b_2012 : Cond.selects "YarnMillModel" yX13_orderAt yX13_orderAt ∈ lw_good := bB 2012 (by decide +kernel) (by decide +kernel)
theorem b_2013 : Cond.code yX13_orderAt cX13_orderAt 2 (some .int) ∈ lw_good := bB 2013 (by decide +kernel) (by decide +kernel)
theorem b_2014 : Cond.methodLink "YarnMillLaw" 219 yX13_lengthOf ∈ lw_good := bB 2014 (by decide +kernel) (by decide +kernel)
theorem b_2015 : Cond.instanceMethod yX13_lengthOf ∈ lw_good := bB 2015 (by decide +kernel) (by decide +kernel)
theorem b_2016 : Cond.selects "YarnMillModel" yX13_lengthOf yX13_lengthOf ∈ lw_good := bB 2016 (by decide +kernel) (by decide +kernel)
theorem b_2017 : Cond.code yX13_lengthOf cX13_lengthOf 2 (some .int) ∈ lw_good := bB 2017 (by decide +kernel) (by decide +kernel)
theorem b_2018 : Cond.methodLink "YarnMillLaw" 222 yX13_twistOf ∈ lw_good := bB 2018 (by decide +kernel) (by decide +kernel)
theorem b_2019 : Cond.instanceMethod yX13_twistOf ∈ lw_good := bB 2019 (by decide +kernel) (by decide +kernel)
theorem b_2020 : Cond.selects "YarnMillModel" yX13_twistOf yX13_twistOf ∈ lw_good := bB 2020 (by decide +kernel) (by decide +kernel)
theorem b_2021 : Cond.code yX13_twistOf cX13_twistOf 2 (some .int) ∈ lw_good := bB 2021 (by decide +kernel) (by decide +kernel)
theorem b_2022 : Cond.methodLink "YarnMillLaw" 225 yX13_minutesOf ∈ lw_good := bB 2022 (by decide +kernel) (by decide +kernel)
theorem b_2023 : Cond.instanceMethod yX13_minutesOf ∈ lw_good := bB 2023 (by decide +kernel) (by decide +kernel)
theorem b_2024 : Cond.selects "YarnMillModel" yX13_minutesOf yX13_minutesOf ∈ lw_good := bB 2024 (by decide +kernel) (by decide +kernel)
theorem b_2025 : Cond.code yX13_minutesOf cX13_minutesOf 2 (some .int) ∈ lw_good := bB 2025 (by decide +kernel) (by decide +kernel)
theorem b_2030 : Cond.methodLink "YarnMillLaw" 228 yX13_canSpin ∈ lw_good := bB 2030 (by decide +kernel) (by decide +kernel)
theorem b_2031 : Cond.instanceMethod yX13_canSpin ∈ lw_good := bB 2031 (by decide +kernel) (by decide +kernel)
theorem b_2032 : Cond.selects "YarnMillModel" yX13_canSpin yX13_canSpin ∈ lw_good := bB 2032 (by decide +kernel) (by decide +kernel)
theorem b_2033 : Cond.code yX13_canSpin cX13_canSpin 2 (some .boolean) ∈ lw_good := bB 2033 (by decide +kernel) (by decide +kernel)
theorem b_2038 : Cond.methodLink "YarnMillLaw" 232 yX13_kinds ∈ lw_good := bB 2038 (by decide +kernel) (by decide +kernel)
theorem b_2039 : Cond.instanceMethod yX13_kinds ∈ lw_good := bB 2039 (by decide +kernel) (by decide +kernel)
theorem b_2040 : Cond.selects "YarnMillModel" yX13_kinds yX13_kinds ∈ lw_good := bB 2040 (by decide +kernel) (by decide +kernel)
theorem b_2041 : Cond.code yX13_kinds cX13_kinds 5 (some .int) ∈ lw_good := bB 2041 (by decide +kernel) (by decide +kernel)
theorem b_2042 : Cond.methodLink "YarnMillLaw" 235 yX13_orderByTime ∈ lw_good := bB 2042 (by decide +kernel) (by decide +kernel)
theorem b_2043 : Cond.instanceMethod yX13_orderByTime ∈ lw_good := bB 2043 (by decide +kernel) (by decide +kernel)
theorem b_2044 : Cond.selects "YarnMillModel" yX13_orderByTime yX13_orderByTime ∈ lw_good := bB 2044 (by decide +kernel) (by decide +kernel)
theorem b_2045 : Cond.code yX13_orderByTime cX13_orderByTime 6 (some .int) ∈ lw_good := bB 2045 (by decide +kernel) (by decide +kernel)
theorem b_2046 : Cond.methodLink "YarnMillLaw" 239 yX13_shortestTime ∈ lw_good := bB 2046 (by decide +kernel) (by decide +kernel)
theorem b_2054 : Cond.methodLink "YarnMillLaw" 243 yX13_shortestTimeBySearch ∈ lw_good := bB 2054 (by decide +kernel) (by decide +kernel)
theorem b_2055 : Cond.instanceMethod yX13_shortestTimeBySearch ∈ lw_good := bB 2055 (by decide +kernel) (by decide +kernel)
theorem b_2056 : Cond.selects "YarnMillModel" yX13_shortestTimeBySearch yX13_shortestTimeBySearch ∈ lw_good := bB 2056 (by decide +kernel) (by decide +kernel)
theorem b_2057 : Cond.code yX13_shortestTimeBySearch cX13_shortestTimeBySearch 1 (some .int) ∈ lw_good := bB 2057 (by decide +kernel) (by decide +kernel)
theorem b_2059 : Cond.methodLink "YarnMillLaw" 247 yX13_pieceCount ∈ lw_good := bB 2059 (by decide +kernel) (by decide +kernel)
theorem b_2060 : Cond.instanceMethod yX13_pieceCount ∈ lw_good := bB 2060 (by decide +kernel) (by decide +kernel)
theorem b_2061 : Cond.selects "YarnMillModel" yX13_pieceCount yX13_pieceCount ∈ lw_good := bB 2061 (by decide +kernel) (by decide +kernel)
theorem b_2062 : Cond.code yX13_pieceCount cX13_pieceCount 1 (some .int) ∈ lw_good := bB 2062 (by decide +kernel) (by decide +kernel)
theorem b_2063 : Cond.methodLink "YarnMillLaw" 250 yX13_pieceLength ∈ lw_good := bB 2063 (by decide +kernel) (by decide +kernel)
theorem b_2064 : Cond.instanceMethod yX13_pieceLength ∈ lw_good := bB 2064 (by decide +kernel) (by decide +kernel)
theorem b_2065 : Cond.selects "YarnMillModel" yX13_pieceLength yX13_pieceLength ∈ lw_good := bB 2065 (by decide +kernel) (by decide +kernel)
theorem b_2066 : Cond.code yX13_pieceLength cX13_pieceLength 2 (some .int) ∈ lw_good := bB 2066 (by decide +kernel) (by decide +kernel)
theorem b_2067 : Cond.methodLink "YarnMillLaw" 253 yX13_longestPiece ∈ lw_good := bB 2067 (by decide +kernel) (by decide +kernel)
theorem b_2068 : Cond.instanceMethod yX13_longestPiece ∈ lw_good := bB 2068 (by decide +kernel) (by decide +kernel)
theorem b_2069 : Cond.selects "YarnMillModel" yX13_longestPiece yX13_longestPiece ∈ lw_good := bB 2069 (by decide +kernel) (by decide +kernel)
theorem b_2070 : Cond.code yX13_longestPiece cX13_longestPiece 3 (some .int) ∈ lw_good := bB 2070 (by decide +kernel) (by decide +kernel)
theorem b_2071 : Cond.methodLink "YarnMillLaw" 256 yX13_pieceByLength ∈ lw_good := bB 2071 (by decide +kernel) (by decide +kernel)
theorem b_2072 : Cond.instanceMethod yX13_pieceByLength ∈ lw_good := bB 2072 (by decide +kernel) (by decide +kernel)
theorem b_2073 : Cond.selects "YarnMillModel" yX13_pieceByLength yX13_pieceByLength ∈ lw_good := bB 2073 (by decide +kernel) (by decide +kernel)
theorem b_2074 : Cond.code yX13_pieceByLength cX13_pieceByLength 6 (some .int) ∈ lw_good := bB 2074 (by decide +kernel) (by decide +kernel)
theorem b_2075 : Cond.methodLink "YarnMillLaw" 259 yX13_worthOf ∈ lw_good := bB 2075 (by decide +kernel) (by decide +kernel)
theorem b_2076 : Cond.instanceMethod yX13_worthOf ∈ lw_good := bB 2076 (by decide +kernel) (by decide +kernel)
theorem b_2077 : Cond.selects "YarnMillModel" yX13_worthOf yX13_worthOf ∈ lw_good := bB 2077 (by decide +kernel) (by decide +kernel)
theorem b_2078 : Cond.code yX13_worthOf cX13_worthOf 2 (some .int) ∈ lw_good := bB 2078 (by decide +kernel) (by decide +kernel)
theorem b_2079 : Cond.methodLink "YarnMillLaw" 263 yX13_spliceCost ∈ lw_good := bB 2079 (by decide +kernel) (by decide +kernel)
theorem b_2083 : Cond.methodLink "YarnMillLaw" 267 yX13_spliceCostByMemory ∈ lw_good := bB 2083 (by decide +kernel) (by decide +kernel)
theorem b_2084 : Cond.instanceMethod yX13_spliceCostByMemory ∈ lw_good := bB 2084 (by decide +kernel) (by decide +kernel)
theorem b_2085 : Cond.selects "YarnMillModel" yX13_spliceCostByMemory yX13_spliceCostByMemory ∈ lw_good := bB 2085 (by decide +kernel) (by decide +kernel)
theorem b_2086 : Cond.code yX13_spliceCostByMemory cX13_spliceCostByMemory 1 (some .int) ∈ lw_good := bB 2086 (by decide +kernel) (by decide +kernel)
theorem b_2088 : Cond.methodLink "YarnMillLaw" 271 yX13_roving ∈ lw_good := bB 2088 (by decide +kernel) (by decide +kernel)
theorem b_2089 : Cond.instanceMethod yX13_roving ∈ lw_good := bB 2089 (by decide +kernel) (by decide +kernel)
theorem b_2090 : Cond.selects "YarnMillModel" yX13_roving yX13_roving ∈ lw_good := bB 2090 (by decide +kernel) (by decide +kernel)
theorem b_2091 : Cond.code yX13_roving cX13_roving 1 (some .int) ∈ lw_good := bB 2091 (by decide +kernel) (by decide +kernel)
theorem b_2092 : Cond.methodLink "YarnMillLaw" 275 yX13_machines ∈ lw_good := bB 2092 (by decide +kernel) (by decide +kernel)
theorem b_2093 : Cond.instanceMethod yX13_machines ∈ lw_good := bB 2093 (by decide +kernel) (by decide +kernel)
theorem b_2094 : Cond.selects "YarnMillModel" yX13_machines yX13_machines ∈ lw_good := bB 2094 (by decide +kernel) (by decide +kernel)
theorem b_2095 : Cond.code yX13_machines cX13_machines 1 (some .int) ∈ lw_good := bB 2095 (by decide +kernel) (by decide +kernel)
theorem b_2096 : Cond.methodLink "YarnMillLaw" 279 yX13_clock ∈ lw_good := bB 2096 (by decide +kernel) (by decide +kernel)
theorem b_2097 : Cond.instanceMethod yX13_clock ∈ lw_good := bB 2097 (by decide +kernel) (by decide +kernel)
theorem b_2098 : Cond.selects "YarnMillModel" yX13_clock yX13_clock ∈ lw_good := bB 2098 (by decide +kernel) (by decide +kernel)
theorem b_2099 : Cond.code yX13_clock cX13_clock 1 (some .int) ∈ lw_good := bB 2099 (by decide +kernel) (by decide +kernel)
theorem b_2100 : Cond.methodLink "YarnMillLaw" 283 yX13_coins ∈ lw_good := bB 2100 (by decide +kernel) (by decide +kernel)
theorem b_2101 : Cond.instanceMethod yX13_coins ∈ lw_good := bB 2101 (by decide +kernel) (by decide +kernel)
theorem b_2102 : Cond.selects "YarnMillModel" yX13_coins yX13_coins ∈ lw_good := bB 2102 (by decide +kernel) (by decide +kernel)
theorem b_2103 : Cond.code yX13_coins cX13_coins 1 (some .int) ∈ lw_good := bB 2103 (by decide +kernel) (by decide +kernel)
theorem b_2104 : Cond.methodLink "YarnMillLaw" 287 yX13_coinsByAccounts ∈ lw_good := bB 2104 (by decide +kernel) (by decide +kernel)
theorem b_2105 : Cond.instanceMethod yX13_coinsByAccounts ∈ lw_good := bB 2105 (by decide +kernel) (by decide +kernel)
theorem b_2106 : Cond.selects "YarnMillModel" yX13_coinsByAccounts yX13_coinsByAccounts ∈ lw_good := bB 2106 (by decide +kernel) (by decide +kernel)
theorem b_2107 : Cond.code yX13_coinsByAccounts cX13_coinsByAccounts 1 (some .int) ∈ lw_good := bB 2107 (by decide +kernel) (by decide +kernel)
theorem b_2108 : Cond.methodLink "YarnMillLaw" 291 yX13_spunTotal ∈ lw_good := bB 2108 (by decide +kernel) (by decide +kernel)
theorem b_2109 : Cond.instanceMethod yX13_spunTotal ∈ lw_good := bB 2109 (by decide +kernel) (by decide +kernel)
theorem b_2110 : Cond.selects "YarnMillModel" yX13_spunTotal yX13_spunTotal ∈ lw_good := bB 2110 (by decide +kernel) (by decide +kernel)
theorem b_2111 : Cond.code yX13_spunTotal cX13_spunTotal 1 (some .int) ∈ lw_good := bB 2111 (by decide +kernel) (by decide +kernel)
theorem b_2112 : Cond.methodLink "YarnMillLaw" 295 yX13_wasteTotal ∈ lw_good := bB 2112 (by decide +kernel) (by decide +kernel)
theorem b_2113 : Cond.instanceMethod yX13_wasteTotal ∈ lw_good := bB 2113 (by decide +kernel) (by decide +kernel)
theorem b_2114 : Cond.selects "YarnMillModel" yX13_wasteTotal yX13_wasteTotal ∈ lw_good := bB 2114 (by decide +kernel) (by decide +kernel)
theorem b_2115 : Cond.code yX13_wasteTotal cX13_wasteTotal 1 (some .int) ∈ lw_good := bB 2115 (by decide +kernel) (by decide +kernel)
theorem b_2116 : Cond.methodLink "YarnMillLaw" 299 yX13_soldTotal ∈ lw_good := bB 2116 (by decide +kernel) (by decide +kernel)
theorem b_2117 : Cond.instanceMethod yX13_soldTotal ∈ lw_good := bB 2117 (by decide +kernel) (by decide +kernel)
theorem b_2118 : Cond.selects "YarnMillModel" yX13_soldTotal yX13_soldTotal ∈ lw_good := bB 2118 (by decide +kernel) (by decide +kernel)
theorem b_2119 : Cond.code yX13_soldTotal cX13_soldTotal 1 (some .int) ∈ lw_good := bB 2119 (by decide +kernel) (by decide +kernel)
theorem b_2120 : Cond.methodLink "YarnMillLaw" 303 yX13_shelfLength ∈ lw_good := bB 2120 (by decide +kernel) (by decide +kernel)
theorem b_2121 : Cond.instanceMethod yX13_shelfLength ∈ lw_good := bB 2121 (by decide +kernel) (by decide +kernel)
theorem b_2122 : Cond.selects "YarnMillModel" yX13_shelfLength yX13_shelfLength ∈ lw_good := bB 2122 (by decide +kernel) (by decide +kernel)
theorem b_2123 : Cond.code yX13_shelfLength cX13_shelfLength 1 (some .int) ∈ lw_good := bB 2123 (by decide +kernel) (by decide +kernel)
theorem b_2128 : Cond.methodLink "YarnMillLaw" 307 yX13_shelfLengthByAccounts ∈ lw_good := bB 2128 (by decide +kernel) (by decide +kernel)
theorem b_2129 : Cond.instanceMethod yX13_shelfLengthByAccounts ∈ lw_good := bB 2129 (by decide +kernel) (by decide +kernel)
theorem b_2130 : Cond.selects "YarnMillModel" yX13_shelfLengthByAccounts yX13_shelfLengthByAccounts ∈ lw_good := bB 2130 (by decide +kernel) (by decide +kernel)
theorem b_2131 : Cond.code yX13_shelfLengthByAccounts cX13_shelfLengthByAccounts 1 (some .int) ∈ lw_good := bB 2131 (by decide +kernel) (by decide +kernel)
theorem b_2132 : Cond.methodLink "YarnMillLaw" 311 yX13_meanLength ∈ lw_good := bB 2132 (by decide +kernel) (by decide +kernel)
theorem b_2133 : Cond.instanceMethod yX13_meanLength ∈ lw_good := bB 2133 (by decide +kernel) (by decide +kernel)
theorem b_2134 : Cond.selects "YarnMillModel" yX13_meanLength yX13_meanLength ∈ lw_good := bB 2134 (by decide +kernel) (by decide +kernel)
theorem b_2135 : Cond.code yX13_meanLength cX13_meanLength 1 (some .double) ∈ lw_good := bB 2135 (by decide +kernel) (by decide +kernel)
theorem b_2136 : Cond.methodLink "YarnMillLaw" 314 yX13_longShare ∈ lw_good := bB 2136 (by decide +kernel) (by decide +kernel)
theorem b_2137 : Cond.instanceMethod yX13_longShare ∈ lw_good := bB 2137 (by decide +kernel) (by decide +kernel)
theorem b_2138 : Cond.selects "YarnMillModel" yX13_longShare yX13_longShare ∈ lw_good := bB 2138 (by decide +kernel) (by decide +kernel)
theorem b_2139 : Cond.code yX13_longShare cX13_longShare 3 (some .float) ∈ lw_good := bB 2139 (by decide +kernel) (by decide +kernel)
theorem b_2140 : Cond.methodLink "YarnMillLaw" 319 yX13_isConsistent ∈ lw_good := bB 2140 (by decide +kernel) (by decide +kernel)
theorem b_2141 : Cond.instanceMethod yX13_isConsistent ∈ lw_good := bB 2141 (by decide +kernel) (by decide +kernel)
theorem b_2142 : Cond.selects "YarnMillModel" yX13_isConsistent yX13_isConsistent ∈ lw_good := bB 2142 (by decide +kernel) (by decide +kernel)
theorem b_2143 : Cond.code yX13_isConsistent cX13_isConsistent 1 (some .boolean) ∈ lw_good := bB 2143 (by decide +kernel) (by decide +kernel)
theorem b_2144 : Cond.methodLink "YarnMillLaw" 323 yX13_renderShelf ∈ lw_good := bB 2144 (by decide +kernel) (by decide +kernel)
theorem b_2145 : Cond.instanceMethod yX13_renderShelf ∈ lw_good := bB 2145 (by decide +kernel) (by decide +kernel)
theorem b_2146 : Cond.selects "YarnMillModel" yX13_renderShelf yX13_renderShelf ∈ lw_good := bB 2146 (by decide +kernel) (by decide +kernel)
theorem b_2147 : Cond.code yX13_renderShelf cX13_renderShelf 2 (some .int) ∈ lw_good := bB 2147 (by decide +kernel) (by decide +kernel)
theorem b_2156 : Cond.methodLink "YarnMillLaw" 326 yX13_renderOrder ∈ lw_good := bB 2156 (by decide +kernel) (by decide +kernel)
theorem b_2157 : Cond.instanceMethod yX13_renderOrder ∈ lw_good := bB 2157 (by decide +kernel) (by decide +kernel)
theorem b_2158 : Cond.selects "YarnMillModel" yX13_renderOrder yX13_renderOrder ∈ lw_good := bB 2158 (by decide +kernel) (by decide +kernel)
theorem b_2159 : Cond.code yX13_renderOrder cX13_renderOrder 3 (some .int) ∈ lw_good := bB 2159 (by decide +kernel) (by decide +kernel)
theorem b_2160 : Cond.methodLink "YarnMillLaw" 329 yX13_outputAt ∈ lw_good := bB 2160 (by decide +kernel) (by decide +kernel)
theorem b_2161 : Cond.instanceMethod yX13_outputAt ∈ lw_good := bB 2161 (by decide +kernel) (by decide +kernel)
theorem b_2162 : Cond.selects "YarnMillModel" yX13_outputAt yX13_outputAt ∈ lw_good := bB 2162 (by decide +kernel) (by decide +kernel)
theorem b_2163 : Cond.code yX13_outputAt cX13_outputAt 2 (some .char) ∈ lw_good := bB 2163 (by decide +kernel) (by decide +kernel)
theorem b_2164 : Cond.methodLink "YarnMillLaw" 333 yX13_type ∈ lw_good := bB 2164 (by decide +kernel) (by decide +kernel)
theorem b_2165 : Cond.instanceMethod yX13_type ∈ lw_good := bB 2165 (by decide +kernel) (by decide +kernel)
theorem b_2166 : Cond.selects "YarnMillModel" yX13_type yX13_type ∈ lw_good := bB 2166 (by decide +kernel) (by decide +kernel)
theorem b_2167 : Cond.code yX13_type cX13_type 2 (some .int) ∈ lw_good := bB 2167 (by decide +kernel) (by decide +kernel)
theorem b_2168 : Cond.methodLink "YarnMillLaw" 336 yX13_runScript ∈ lw_good := bB 2168 (by decide +kernel) (by decide +kernel)
theorem b_2169 : Cond.instanceMethod yX13_runScript ∈ lw_good := bB 2169 (by decide +kernel) (by decide +kernel)
theorem b_2170 : Cond.selects "YarnMillModel" yX13_runScript yX13_runScript ∈ lw_good := bB 2170 (by decide +kernel) (by decide +kernel)
theorem b_2171 : Cond.code yX13_runScript cX13_runScript 3 (some .int) ∈ lw_good := bB 2171 (by decide +kernel) (by decide +kernel)
theorem b_2226 : Cond.methodLink "YarnMillLaw" 339 yX13_errorPosition ∈ lw_good := bB 2226 (by decide +kernel) (by decide +kernel)
theorem b_2227 : Cond.instanceMethod yX13_errorPosition ∈ lw_good := bB 2227 (by decide +kernel) (by decide +kernel)
theorem b_2228 : Cond.selects "YarnMillModel" yX13_errorPosition yX13_errorPosition ∈ lw_good := bB 2228 (by decide +kernel) (by decide +kernel)
theorem b_2229 : Cond.code yX13_errorPosition cX13_errorPosition 1 (some .int) ∈ lw_good := bB 2229 (by decide +kernel) (by decide +kernel)
theorem b_2230 : Cond.methodLink "YarnMillLaw" 342 yX13_failedCommand ∈ lw_good := bB 2230 (by decide +kernel) (by decide +kernel)
theorem b_2231 : Cond.instanceMethod yX13_failedCommand ∈ lw_good := bB 2231 (by decide +kernel) (by decide +kernel)
theorem b_2232 : Cond.selects "YarnMillModel" yX13_failedCommand yX13_failedCommand ∈ lw_good := bB 2232 (by decide +kernel) (by decide +kernel)
theorem b_2233 : Cond.code yX13_failedCommand cX13_failedCommand 1 (some .int) ∈ lw_good := bB 2233 (by decide +kernel) (by decide +kernel)
theorem b_2234 : Cond.methodLink "YarnMillLaw" 345 yX13_undo ∈ lw_good := bB 2234 (by decide +kernel) (by decide +kernel)
theorem b_2235 : Cond.instanceMethod yX13_undo ∈ lw_good := bB 2235 (by decide +kernel) (by decide +kernel)
theorem b_2236 : Cond.selects "YarnMillModel" yX13_undo yX13_undo ∈ lw_good := bB 2236 (by decide +kernel) (by decide +kernel)
theorem b_2237 : Cond.code yX13_undo cX13_undo 1 (some .int) ∈ lw_good := bB 2237 (by decide +kernel) (by decide +kernel)
theorem b_2238 : Cond.methodLink "YarnMillLaw" 349 yX13_save ∈ lw_good := bB 2238 (by decide +kernel) (by decide +kernel)
theorem b_2239 : Cond.instanceMethod yX13_save ∈ lw_good := bB 2239 (by decide +kernel) (by decide +kernel)
theorem b_2240 : Cond.selects "YarnMillModel" yX13_save yX13_save ∈ lw_good := bB 2240 (by decide +kernel) (by decide +kernel)
theorem b_2241 : Cond.code yX13_save cX13_save 1 (some .int) ∈ lw_good := bB 2241 (by decide +kernel) (by decide +kernel)
theorem b_2242 : Cond.methodLink "YarnMillLaw" 352 yX13_restore ∈ lw_good := bB 2242 (by decide +kernel) (by decide +kernel)
theorem b_2243 : Cond.instanceMethod yX13_restore ∈ lw_good := bB 2243 (by decide +kernel) (by decide +kernel)
theorem b_2244 : Cond.selects "YarnMillModel" yX13_restore yX13_restore ∈ lw_good := bB 2244 (by decide +kernel) (by decide +kernel)
theorem b_2245 : Cond.code yX13_restore cX13_restore 1 (some .int) ∈ lw_good := bB 2245 (by decide +kernel) (by decide +kernel)
def wC_0 (a1 : Int32) (a2 : Int32) (a3 : Int32) (s_ : Mem) (Q : Mem → Prop) : Prop := wL_buyBale a1 a2 a3 s_ (fun (k : Int32) (s0 : Mem) => wX13_buyBale a1 a2 a3 s0 (fun (bb : Int32) (s1 : Mem) => wX13_thrown  s1 (fun (t : Int32) (s2 : Mem) => t = k ∧ (k = 0 → rdL s2 = bb.toInt64) ∧ Q s2) (fun _ _ => False)) (fun _ _ => False))
set_option maxRecDepth 20000 in
set_option maxHeartbeats 4000000 in
theorem oC_0 {K : Fr} {b L : Nat} {xs : Nat → Int32} (B : BL K b L xs) {cells slots : Nat} {iv : Int32} {a1 : Int32} {a2 : Int32} {a3 : Int32} (h1 : vp_in (iv + 1) L) (e1 : xs (iv + 1).toNatClampNeg = a1) (h2 : vp_in (iv + 2) L) (e2 : xs (iv + 2).toNatClampNeg = a2) (h3 : vp_in (iv + 3) L) (e3 : xs (iv + 3).toNatClampNeg = a3) {s_ : Mem} {Q : Mem → Prop} (h : wC_0 a1 a2 a3 s_ Q) (hc : cells + 32 ≤ 603072) (hs : slots + 9000 ≤ 7202922) (kk : ∀ σ, Q σ → Go K (cells + 32) (slots + 9000) σ 2684 [some (.ref b), some (.ref (xad (fX K) 14 0)), some (.ref (xad (fX K) 15 0)), some (.ref (xad (fX K) 17 0)), some (.ref (xad (fX K) 18 0)), some (.int iv), none, none, none] []) : Go K cells slots s_ 292 [some (.ref b), some (.ref (xad (fX K) 14 0)), some (.ref (xad (fX K) 15 0)), some (.ref (xad (fX K) 17 0)), some (.ref (xad (fX K) 18 0)), some (.int iv), none, none, none] [] := by
  unfold wC_0 at h
  refine g_aload_n (np := 293) B.1 dL_law_292 rfl rfl ?_
  refine g_aload_n (np := 294) B.1 dL_law_293 rfl rfl ?_
  refine g_iload (np := 296) B.1 dL_law_294 rfl rfl ?_
  refine g_iconst (v := 1) (np := 297) B.1 dL_law_296 (by decide) rfl ?_
  refine g_iadd (np := 298) B.1 dL_law_297 rfl ?_
  refine g_sld (np := 299) B h1 dL_law_298 rfl ?_
  rw [e1]
  refine g_aload_n (np := 300) B.1 dL_law_299 rfl rfl ?_
  refine g_iload (np := 302) B.1 dL_law_300 rfl rfl ?_
  refine g_iconst (v := 2) (np := 303) B.1 dL_law_302 (by decide) rfl ?_
  refine g_iadd (np := 304) B.1 dL_law_303 rfl ?_
  refine g_sld (np := 305) B h2 dL_law_304 rfl ?_
  rw [e2]
  refine g_aload_n (np := 306) B.1 dL_law_305 rfl rfl ?_
  refine g_iload (np := 308) B.1 dL_law_306 rfl rfl ?_
  refine g_iconst (v := 3) (np := 309) B.1 dL_law_308 (by decide) rfl ?_
  refine g_iadd (np := 310) B.1 dL_law_309 rfl ?_
  refine g_sld (np := 311) B h3 dL_law_310 rfl ?_
  rw [e3]
  refine g_aload_n (np := 312) B.1 dL_law_311 rfl rfl ?_
  refine g_callW (np := 315) B (n := 5) (As := [.ref (xad (fX K) 14 0), .int a1, .int a2, .int a3, .ref (xad (fX K) 17 0)]) (oL_buyBale B.1.tr a1 a2 a3 _ _ h) b_1030 b_1028 b_1029 b_69 (by decide +kernel) rfl (Nat.le_of_ble_eq_true rfl) (Nat.le_of_ble_eq_true rfl) (Nat.le_of_ble_eq_true rfl) dL_law_312 (by omega) (by omega) rfl (fun r0 s0 hr => ?_)
  obtain ⟨k, rfl, h⟩ := hr
  show Go K _ _ s0 315 [some (.ref b), some (.ref (xad (fX K) 14 0)), some (.ref (xad (fX K) 15 0)), some (.ref (xad (fX K) 17 0)), some (.ref (xad (fX K) 18 0)), some (.int iv), none, none, none] (.int k :: [])
  refine g_istore (np := 317) (lv' := [some (.ref b), some (.ref (xad (fX K) 14 0)), some (.ref (xad (fX K) 15 0)), some (.ref (xad (fX K) 17 0)), some (.ref (xad (fX K) 18 0)), some (.int iv), some (.int k), none, none]) B.1 dL_law_315 (by decide) rfl rfl rfl ?_
  refine g_aload_n (np := 318) B.1 dL_law_317 rfl rfl ?_
  refine g_aload_n (np := 319) B.1 dL_law_318 rfl rfl ?_
  refine g_iload (np := 321) B.1 dL_law_319 rfl rfl ?_
  refine g_iconst (v := 1) (np := 322) B.1 dL_law_321 (by decide) rfl ?_
  refine g_iadd (np := 323) B.1 dL_law_322 rfl ?_
  refine g_sld (np := 324) B h1 dL_law_323 rfl ?_
  rw [e1]
  refine g_aload_n (np := 325) B.1 dL_law_324 rfl rfl ?_
  refine g_iload (np := 327) B.1 dL_law_325 rfl rfl ?_
  refine g_iconst (v := 2) (np := 328) B.1 dL_law_327 (by decide) rfl ?_
  refine g_iadd (np := 329) B.1 dL_law_328 rfl ?_
  refine g_sld (np := 330) B h2 dL_law_329 rfl ?_
  rw [e2]
  refine g_aload_n (np := 331) B.1 dL_law_330 rfl rfl ?_
  refine g_iload (np := 333) B.1 dL_law_331 rfl rfl ?_
  refine g_iconst (v := 3) (np := 334) B.1 dL_law_333 (by decide) rfl ?_
  refine g_iadd (np := 335) B.1 dL_law_334 rfl ?_
  refine g_sld (np := 336) B h3 dL_law_335 rfl ?_
  rw [e3]
  refine g_callL (np := 339) B 15 (by decide) rfl rfl rfl (n := 3) (As := [.int a1, .int a2, .int a3]) (oX13_buyBale B.1.tr a1 a2 a3 _ _ _ h) b_1818 b_1815 b_1816 b_1817 b_85 (by decide +kernel) rfl (Nat.le_of_ble_eq_true rfl) (Nat.le_of_ble_eq_true rfl) (Nat.le_of_ble_eq_true rfl) dL_law_336 (by omega) (by omega) rfl (fun r1 s1 hr => ?_)
  obtain ⟨bb, rfl, h⟩ := hr
  show Go K _ _ s1 339 [some (.ref b), some (.ref (xad (fX K) 14 0)), some (.ref (xad (fX K) 15 0)), some (.ref (xad (fX K) 17 0)), some (.ref (xad (fX K) 18 0)), some (.int iv), some (.int k), none, none] (.int bb :: [])
  refine g_istore (np := 341) (lv' := [some (.ref b), some (.ref (xad (fX K) 14 0)), some (.ref (xad (fX K) 15 0)), some (.ref (xad (fX K) 17 0)), some (.ref (xad (fX K) 18 0)), some (.int iv), some (.int k), some (.int bb), none]) B.1 dL_law_339 (by decide) rfl rfl rfl ?_
  refine g_aload_n (np := 342) B.1 dL_law_341 rfl rfl ?_
  refine g_callL (np := 345) B 15 (by decide) rfl rfl rfl (n := 0) (As := []) (oX13_thrown B.1.tr  _ _ _ h) b_1814 b_1811 b_1812 b_1813 b_85 (by decide +kernel) rfl (Nat.le_of_ble_eq_true rfl) (Nat.le_of_ble_eq_true rfl) (Nat.le_of_ble_eq_true rfl) dL_law_342 (by omega) (by omega) rfl (fun r2 s2 hr => ?_)
  obtain ⟨t, rfl, h⟩ := hr
  show Go K _ _ s2 345 [some (.ref b), some (.ref (xad (fX K) 14 0)), some (.ref (xad (fX K) 15 0)), some (.ref (xad (fX K) 17 0)), some (.ref (xad (fX K) 18 0)), some (.int iv), some (.int k), some (.int bb), none] (.int t :: [])
  obtain ⟨hk, hv, h⟩ := h
  refine g_iload (np := 347) B.1 dL_law_345 rfl rfl ?_
  refine g_icmp_eq (np := 350) (tgt := 352) B.1 dL_law_347 (by decide) rfl (fun _ => ?_) (fun q => absurd hk q)
  refine g_iload (np := 354) B.1 dL_law_352 rfl rfl ?_
  have key : Go K (cells + 1) (slots + 6) s2 369 [some (.ref b), some (.ref (xad (fX K) 14 0)), some (.ref (xad (fX K) 15 0)), some (.ref (xad (fX K) 17 0)), some (.ref (xad (fX K) 18 0)), some (.int iv), some (.int k), some (.int bb), none] [] := by
    refine g_goto (tgt := 2684) B.1 dL_law_369 (by decide) ?_
    refine Go.lle [some (.ref b), some (.ref (xad (fX K) 14 0)), some (.ref (xad (fX K) 15 0)), some (.ref (xad (fX K) 17 0)), some (.ref (xad (fX K) 18 0)), some (.int iv), none, none, none] (by simp [lle]) ?_
    exact Go.widen (by omega) (by omega) (kk _ h)
  refine g_if_ne (np := 357) (tgt := 369) B.1 dL_law_354 (by decide) rfl (fun _ => Go.widen (by omega) (by omega) key) (fun q => ?_)
  replace hv := hv q
  refine g_aload_n (np := 358) B.1 dL_law_357 rfl rfl ?_
  refine g_iconst (v := 0) (np := 359) B.1 dL_law_358 (by decide) rfl ?_
  refine g_lald (np := 360) B.1 dL_law_359 rfl ?_
  refine g_iload (np := 362) B.1 dL_law_360 rfl rfl ?_
  refine g_i2l (np := 363) B.1 dL_law_362 rfl ?_
  rw [hv]
  refine g_lcmp (np := 364) B.1 dL_law_363 rfl ?_
  rw [lcmp_self]
  refine g_if_eq (np := 367) (tgt := 369) B.1 dL_law_364 (by decide) rfl (fun _ => Go.widen (by omega) (by omega) key) (fun q => absurd rfl q)
def wC_1 (a1 : Int32) (a2 : Int32) (s_ : Mem) (Q : Mem → Prop) : Prop := wL_blend a1 a2 s_ (fun (k : Int32) (s0 : Mem) => wX13_blend a1 a2 s0 (fun (bb : Int32) (s1 : Mem) => wX13_thrown  s1 (fun (t : Int32) (s2 : Mem) => t = k ∧ (k = 0 → rdL s2 = bb.toInt64) ∧ Q s2) (fun _ _ => False)) (fun _ _ => False))
set_option maxRecDepth 20000 in
set_option maxHeartbeats 4000000 in
theorem oC_1 {K : Fr} {b L : Nat} {xs : Nat → Int32} (B : BL K b L xs) {cells slots : Nat} {iv : Int32} {a1 : Int32} {a2 : Int32} (h1 : vp_in (iv + 1) L) (e1 : xs (iv + 1).toNatClampNeg = a1) (h2 : vp_in (iv + 2) L) (e2 : xs (iv + 2).toNatClampNeg = a2) {s_ : Mem} {Q : Mem → Prop} (h : wC_1 a1 a2 s_ Q) (hc : cells + 32 ≤ 603072) (hs : slots + 9000 ≤ 7202922) (kk : ∀ σ, Q σ → Go K (cells + 32) (slots + 9000) σ 2684 [some (.ref b), some (.ref (xad (fX K) 14 0)), some (.ref (xad (fX K) 15 0)), some (.ref (xad (fX K) 17 0)), some (.ref (xad (fX K) 18 0)), some (.int iv), none, none, none] []) : Go K cells slots s_ 372 [some (.ref b), some (.ref (xad (fX K) 14 0)), some (.ref (xad (fX K) 15 0)), some (.ref (xad (fX K) 17 0)), some (.ref (xad (fX K) 18 0)), some (.int iv), none, none, none] [] := by
  unfold wC_1 at h
  refine g_aload_n (np := 373) B.1 dL_law_372 rfl rfl ?_
  refine g_aload_n (np := 374) B.1 dL_law_373 rfl rfl ?_
  refine g_iload (np := 376) B.1 dL_law_374 rfl rfl ?_
  refine g_iconst (v := 1) (np := 377) B.1 dL_law_376 (by decide) rfl ?_
  refine g_iadd (np := 378) B.1 dL_law_377 rfl ?_
  refine g_sld (np := 379) B h1 dL_law_378 rfl ?_
  rw [e1]
  refine g_aload_n (np := 380) B.1 dL_law_379 rfl rfl ?_
  refine g_iload (np := 382) B.1 dL_law_380 rfl rfl ?_
  refine g_iconst (v := 2) (np := 383) B.1 dL_law_382 (by decide) rfl ?_
  refine g_iadd (np := 384) B.1 dL_law_383 rfl ?_
  refine g_sld (np := 385) B h2 dL_law_384 rfl ?_
  rw [e2]
  refine g_aload_n (np := 386) B.1 dL_law_385 rfl rfl ?_
  refine g_callW (np := 389) B (n := 4) (As := [.ref (xad (fX K) 14 0), .int a1, .int a2, .ref (xad (fX K) 17 0)]) (oL_blend B.1.tr a1 a2 _ _ h) b_1282 b_1280 b_1281 b_69 (by decide +kernel) rfl (Nat.le_of_ble_eq_true rfl) (Nat.le_of_ble_eq_true rfl) (Nat.le_of_ble_eq_true rfl) dL_law_386 (by omega) (by omega) rfl (fun r0 s0 hr => ?_)
  obtain ⟨k, rfl, h⟩ := hr
  show Go K _ _ s0 389 [some (.ref b), some (.ref (xad (fX K) 14 0)), some (.ref (xad (fX K) 15 0)), some (.ref (xad (fX K) 17 0)), some (.ref (xad (fX K) 18 0)), some (.int iv), none, none, none] (.int k :: [])
  refine g_istore (np := 391) (lv' := [some (.ref b), some (.ref (xad (fX K) 14 0)), some (.ref (xad (fX K) 15 0)), some (.ref (xad (fX K) 17 0)), some (.ref (xad (fX K) 18 0)), some (.int iv), some (.int k), none, none]) B.1 dL_law_389 (by decide) rfl rfl rfl ?_
  refine g_aload_n (np := 392) B.1 dL_law_391 rfl rfl ?_
  refine g_aload_n (np := 393) B.1 dL_law_392 rfl rfl ?_
  refine g_iload (np := 395) B.1 dL_law_393 rfl rfl ?_
  refine g_iconst (v := 1) (np := 396) B.1 dL_law_395 (by decide) rfl ?_
  refine g_iadd (np := 397) B.1 dL_law_396 rfl ?_
  refine g_sld (np := 398) B h1 dL_law_397 rfl ?_
  rw [e1]
  refine g_aload_n (np := 399) B.1 dL_law_398 rfl rfl ?_
  refine g_iload (np := 401) B.1 dL_law_399 rfl rfl ?_
  refine g_iconst (v := 2) (np := 402) B.1 dL_law_401 (by decide) rfl ?_
  refine g_iadd (np := 403) B.1 dL_law_402 rfl ?_
  refine g_sld (np := 404) B h2 dL_law_403 rfl ?_
  rw [e2]
  refine g_callL (np := 407) B 15 (by decide) rfl rfl rfl (n := 2) (As := [.int a1, .int a2]) (oX13_blend B.1.tr a1 a2 _ _ _ h) b_1844 b_1841 b_1842 b_1843 b_85 (by decide +kernel) rfl (Nat.le_of_ble_eq_true rfl) (Nat.le_of_ble_eq_true rfl) (Nat.le_of_ble_eq_true rfl) dL_law_404 (by omega) (by omega) rfl (fun r1 s1 hr => ?_)
  obtain ⟨bb, rfl, h⟩ := hr
  show Go K _ _ s1 407 [some (.ref b), some (.ref (xad (fX K) 14 0)), some (.ref (xad (fX K) 15 0)), some (.ref (xad (fX K) 17 0)), some (.ref (xad (fX K) 18 0)), some (.int iv), some (.int k), none, none] (.int bb :: [])
  refine g_istore (np := 409) (lv' := [some (.ref b), some (.ref (xad (fX K) 14 0)), some (.ref (xad (fX K) 15 0)), some (.ref (xad (fX K) 17 0)), some (.ref (xad (fX K) 18 0)), some (.int iv), some (.int k), some (.int bb), none]) B.1 dL_law_407 (by decide) rfl rfl rfl ?_
  refine g_aload_n (np := 410) B.1 dL_law_409 rfl rfl ?_
  refine g_callL (np := 413) B 15 (by decide) rfl rfl rfl (n := 0) (As := []) (oX13_thrown B.1.tr  _ _ _ h) b_1814 b_1811 b_1812 b_1813 b_85 (by decide +kernel) rfl (Nat.le_of_ble_eq_true rfl) (Nat.le_of_ble_eq_true rfl) (Nat.le_of_ble_eq_true rfl) dL_law_410 (by omega) (by omega) rfl (fun r2 s2 hr => ?_)
  obtain ⟨t, rfl, h⟩ := hr
  show Go K _ _ s2 413 [some (.ref b), some (.ref (xad (fX K) 14 0)), some (.ref (xad (fX K) 15 0)), some (.ref (xad (fX K) 17 0)), some (.ref (xad (fX K) 18 0)), some (.int iv), some (.int k), some (.int bb), none] (.int t :: [])
  obtain ⟨hk, hv, h⟩ := h
  refine g_iload (np := 415) B.1 dL_law_413 rfl rfl ?_
  refine g_icmp_eq (np := 418) (tgt := 420) B.1 dL_law_415 (by decide) rfl (fun _ => ?_) (fun q => absurd hk q)
  refine g_iload (np := 422) B.1 dL_law_420 rfl rfl ?_
  have key : Go K (cells + 1) (slots + 6) s2 437 [some (.ref b), some (.ref (xad (fX K) 14 0)), some (.ref (xad (fX K) 15 0)), some (.ref (xad (fX K) 17 0)), some (.ref (xad (fX K) 18 0)), some (.int iv), some (.int k), some (.int bb), none] [] := by
    refine g_goto (tgt := 2684) B.1 dL_law_437 (by decide) ?_
    refine Go.lle [some (.ref b), some (.ref (xad (fX K) 14 0)), some (.ref (xad (fX K) 15 0)), some (.ref (xad (fX K) 17 0)), some (.ref (xad (fX K) 18 0)), some (.int iv), none, none, none] (by simp [lle]) ?_
    exact Go.widen (by omega) (by omega) (kk _ h)
  refine g_if_ne (np := 425) (tgt := 437) B.1 dL_law_422 (by decide) rfl (fun _ => Go.widen (by omega) (by omega) key) (fun q => ?_)
  replace hv := hv q
  refine g_aload_n (np := 426) B.1 dL_law_425 rfl rfl ?_
  refine g_iconst (v := 0) (np := 427) B.1 dL_law_426 (by decide) rfl ?_
  refine g_lald (np := 428) B.1 dL_law_427 rfl ?_
  refine g_iload (np := 430) B.1 dL_law_428 rfl rfl ?_
  refine g_i2l (np := 431) B.1 dL_law_430 rfl ?_
  rw [hv]
  refine g_lcmp (np := 432) B.1 dL_law_431 rfl ?_
  rw [lcmp_self]
  refine g_if_eq (np := 435) (tgt := 437) B.1 dL_law_432 (by decide) rfl (fun _ => Go.widen (by omega) (by omega) key) (fun q => absurd rfl q)
def wC_2 (a1 : Int32) (a2 : Int32) (s_ : Mem) (Q : Mem → Prop) : Prop := wL_addOrder a1 a2 s_ (fun (k : Int32) (s0 : Mem) => wX13_addOrder a1 a2 s0 (fun (bb : Int32) (s1 : Mem) => wX13_thrown  s1 (fun (t : Int32) (s2 : Mem) => t = k ∧ (k = 0 → rdL s2 = bb.toInt64) ∧ Q s2) (fun _ _ => False)) (fun _ _ => False))
set_option maxRecDepth 20000 in
set_option maxHeartbeats 4000000 in
theorem oC_2 {K : Fr} {b L : Nat} {xs : Nat → Int32} (B : BL K b L xs) {cells slots : Nat} {iv : Int32} {a1 : Int32} {a2 : Int32} (h1 : vp_in (iv + 1) L) (e1 : xs (iv + 1).toNatClampNeg = a1) (h2 : vp_in (iv + 2) L) (e2 : xs (iv + 2).toNatClampNeg = a2) {s_ : Mem} {Q : Mem → Prop} (h : wC_2 a1 a2 s_ Q) (hc : cells + 32 ≤ 603072) (hs : slots + 9000 ≤ 7202922) (kk : ∀ σ, Q σ → Go K (cells + 32) (slots + 9000) σ 2684 [some (.ref b), some (.ref (xad (fX K) 14 0)), some (.ref (xad (fX K) 15 0)), some (.ref (xad (fX K) 17 0)), some (.ref (xad (fX K) 18 0)), some (.int iv), none, none, none] []) : Go K cells slots s_ 440 [some (.ref b), some (.ref (xad (fX K) 14 0)), some (.ref (xad (fX K) 15 0)), some (.ref (xad (fX K) 17 0)), some (.ref (xad (fX K) 18 0)), some (.int iv), none, none, none] [] := by
  unfold wC_2 at h
  refine g_aload_n (np := 441) B.1 dL_law_440 rfl rfl ?_
  refine g_aload_n (np := 442) B.1 dL_law_441 rfl rfl ?_
  refine g_iload (np := 444) B.1 dL_law_442 rfl rfl ?_
  refine g_iconst (v := 1) (np := 445) B.1 dL_law_444 (by decide) rfl ?_
  refine g_iadd (np := 446) B.1 dL_law_445 rfl ?_
  refine g_sld (np := 447) B h1 dL_law_446 rfl ?_
  rw [e1]
  refine g_aload_n (np := 448) B.1 dL_law_447 rfl rfl ?_
  refine g_iload (np := 450) B.1 dL_law_448 rfl rfl ?_
  refine g_iconst (v := 2) (np := 451) B.1 dL_law_450 (by decide) rfl ?_
  refine g_iadd (np := 452) B.1 dL_law_451 rfl ?_
  refine g_sld (np := 453) B h2 dL_law_452 rfl ?_
  rw [e2]
  refine g_aload_n (np := 454) B.1 dL_law_453 rfl rfl ?_
  refine g_callW (np := 457) B (n := 4) (As := [.ref (xad (fX K) 14 0), .int a1, .int a2, .ref (xad (fX K) 17 0)]) (oL_addOrder B.1.tr a1 a2 _ _ h) b_1291 b_1289 b_1290 b_69 (by decide +kernel) rfl (Nat.le_of_ble_eq_true rfl) (Nat.le_of_ble_eq_true rfl) (Nat.le_of_ble_eq_true rfl) dL_law_454 (by omega) (by omega) rfl (fun r0 s0 hr => ?_)
  obtain ⟨k, rfl, h⟩ := hr
  show Go K _ _ s0 457 [some (.ref b), some (.ref (xad (fX K) 14 0)), some (.ref (xad (fX K) 15 0)), some (.ref (xad (fX K) 17 0)), some (.ref (xad (fX K) 18 0)), some (.int iv), none, none, none] (.int k :: [])
  refine g_istore (np := 459) (lv' := [some (.ref b), some (.ref (xad (fX K) 14 0)), some (.ref (xad (fX K) 15 0)), some (.ref (xad (fX K) 17 0)), some (.ref (xad (fX K) 18 0)), some (.int iv), some (.int k), none, none]) B.1 dL_law_457 (by decide) rfl rfl rfl ?_
  refine g_aload_n (np := 460) B.1 dL_law_459 rfl rfl ?_
  refine g_aload_n (np := 461) B.1 dL_law_460 rfl rfl ?_
  refine g_iload (np := 463) B.1 dL_law_461 rfl rfl ?_
  refine g_iconst (v := 1) (np := 464) B.1 dL_law_463 (by decide) rfl ?_
  refine g_iadd (np := 465) B.1 dL_law_464 rfl ?_
  refine g_sld (np := 466) B h1 dL_law_465 rfl ?_
  rw [e1]
  refine g_aload_n (np := 467) B.1 dL_law_466 rfl rfl ?_
  refine g_iload (np := 469) B.1 dL_law_467 rfl rfl ?_
  refine g_iconst (v := 2) (np := 470) B.1 dL_law_469 (by decide) rfl ?_
  refine g_iadd (np := 471) B.1 dL_law_470 rfl ?_
  refine g_sld (np := 472) B h2 dL_law_471 rfl ?_
  rw [e2]
  refine g_callL (np := 475) B 15 (by decide) rfl rfl rfl (n := 2) (As := [.int a1, .int a2]) (oX13_addOrder B.1.tr a1 a2 _ _ _ h) b_1875 b_1872 b_1873 b_1874 b_85 (by decide +kernel) rfl (Nat.le_of_ble_eq_true rfl) (Nat.le_of_ble_eq_true rfl) (Nat.le_of_ble_eq_true rfl) dL_law_472 (by omega) (by omega) rfl (fun r1 s1 hr => ?_)
  obtain ⟨bb, rfl, h⟩ := hr
  show Go K _ _ s1 475 [some (.ref b), some (.ref (xad (fX K) 14 0)), some (.ref (xad (fX K) 15 0)), some (.ref (xad (fX K) 17 0)), some (.ref (xad (fX K) 18 0)), some (.int iv), some (.int k), none, none] (.int bb :: [])
  refine g_istore (np := 477) (lv' := [some (.ref b), some (.ref (xad (fX K) 14 0)), some (.ref (xad (fX K) 15 0)), some (.ref (xad (fX K) 17 0)), some (.ref (xad (fX K) 18 0)), some (.int iv), some (.int k), some (.int bb), none]) B.1 dL_law_475 (by decide) rfl rfl rfl ?_
  refine g_aload_n (np := 478) B.1 dL_law_477 rfl rfl ?_
  refine g_callL (np := 481) B 15 (by decide) rfl rfl rfl (n := 0) (As := []) (oX13_thrown B.1.tr  _ _ _ h) b_1814 b_1811 b_1812 b_1813 b_85 (by decide +kernel) rfl (Nat.le_of_ble_eq_true rfl) (Nat.le_of_ble_eq_true rfl) (Nat.le_of_ble_eq_true rfl) dL_law_478 (by omega) (by omega) rfl (fun r2 s2 hr => ?_)
  obtain ⟨t, rfl, h⟩ := hr
  show Go K _ _ s2 481 [some (.ref b), some (.ref (xad (fX K) 14 0)), some (.ref (xad (fX K) 15 0)), some (.ref (xad (fX K) 17 0)), some (.ref (xad (fX K) 18 0)), some (.int iv), some (.int k), some (.int bb), none] (.int t :: [])
  obtain ⟨hk, hv, h⟩ := h
  refine g_iload (np := 483) B.1 dL_law_481 rfl rfl ?_
  refine g_icmp_eq (np := 486) (tgt := 488) B.1 dL_law_483 (by decide) rfl (fun _ => ?_) (fun q => absurd hk q)
  refine g_iload (np := 490) B.1 dL_law_488 rfl rfl ?_
  have key : Go K (cells + 1) (slots + 6) s2 505 [some (.ref b), some (.ref (xad (fX K) 14 0)), some (.ref (xad (fX K) 15 0)), some (.ref (xad (fX K) 17 0)), some (.ref (xad (fX K) 18 0)), some (.int iv), some (.int k), some (.int bb), none] [] := by
    refine g_goto (tgt := 2684) B.1 dL_law_505 (by decide) ?_
    refine Go.lle [some (.ref b), some (.ref (xad (fX K) 14 0)), some (.ref (xad (fX K) 15 0)), some (.ref (xad (fX K) 17 0)), some (.ref (xad (fX K) 18 0)), some (.int iv), none, none, none] (by simp [lle]) ?_
    exact Go.widen (by omega) (by omega) (kk _ h)
  refine g_if_ne (np := 493) (tgt := 505) B.1 dL_law_490 (by decide) rfl (fun _ => Go.widen (by omega) (by omega) key) (fun q => ?_)
  replace hv := hv q
  refine g_aload_n (np := 494) B.1 dL_law_493 rfl rfl ?_
  refine g_iconst (v := 0) (np := 495) B.1 dL_law_494 (by decide) rfl ?_
  refine g_lald (np := 496) B.1 dL_law_495 rfl ?_
  refine g_iload (np := 498) B.1 dL_law_496 rfl rfl ?_
  refine g_i2l (np := 499) B.1 dL_law_498 rfl ?_
  rw [hv]
  refine g_lcmp (np := 500) B.1 dL_law_499 rfl ?_
  rw [lcmp_self]
  refine g_if_eq (np := 503) (tgt := 505) B.1 dL_law_500 (by decide) rfl (fun _ => Go.widen (by omega) (by omega) key) (fun q => absurd rfl q)
def wC_3 (a1 : Int32) (s_ : Mem) (Q : Mem → Prop) : Prop := wL_cancelOrder a1 s_ (fun (k : Int32) (s0 : Mem) => wX13_cancelOrder a1 s0 (fun (bb : Int32) (s1 : Mem) => wX13_thrown  s1 (fun (t : Int32) (s2 : Mem) => t = k ∧ (k = 0 → rdL s2 = bb.toInt64) ∧ Q s2) (fun _ _ => False)) (fun _ _ => False))
set_option maxRecDepth 20000 in
set_option maxHeartbeats 4000000 in
theorem oC_3 {K : Fr} {b L : Nat} {xs : Nat → Int32} (B : BL K b L xs) {cells slots : Nat} {iv : Int32} {a1 : Int32} (h1 : vp_in (iv + 1) L) (e1 : xs (iv + 1).toNatClampNeg = a1) {s_ : Mem} {Q : Mem → Prop} (h : wC_3 a1 s_ Q) (hc : cells + 32 ≤ 603072) (hs : slots + 9000 ≤ 7202922) (kk : ∀ σ, Q σ → Go K (cells + 32) (slots + 9000) σ 2684 [some (.ref b), some (.ref (xad (fX K) 14 0)), some (.ref (xad (fX K) 15 0)), some (.ref (xad (fX K) 17 0)), some (.ref (xad (fX K) 18 0)), some (.int iv), none, none, none] []) : Go K cells slots s_ 508 [some (.ref b), some (.ref (xad (fX K) 14 0)), some (.ref (xad (fX K) 15 0)), some (.ref (xad (fX K) 17 0)), some (.ref (xad (fX K) 18 0)), some (.int iv), none, none, none] [] := by
  unfold wC_3 at h
  refine g_aload_n (np := 509) B.1 dL_law_508 rfl rfl ?_
  refine g_aload_n (np := 510) B.1 dL_law_509 rfl rfl ?_
  refine g_iload (np := 512) B.1 dL_law_510 rfl rfl ?_
  refine g_iconst (v := 1) (np := 513) B.1 dL_law_512 (by decide) rfl ?_
  refine g_iadd (np := 514) B.1 dL_law_513 rfl ?_
  refine g_sld (np := 515) B h1 dL_law_514 rfl ?_
  rw [e1]
  refine g_aload_n (np := 516) B.1 dL_law_515 rfl rfl ?_
  refine g_callW (np := 519) B (n := 3) (As := [.ref (xad (fX K) 14 0), .int a1, .ref (xad (fX K) 17 0)]) (oL_cancelOrder B.1.tr a1 _ _ h) b_1300 b_1298 b_1299 b_69 (by decide +kernel) rfl (Nat.le_of_ble_eq_true rfl) (Nat.le_of_ble_eq_true rfl) (Nat.le_of_ble_eq_true rfl) dL_law_516 (by omega) (by omega) rfl (fun r0 s0 hr => ?_)
  obtain ⟨k, rfl, h⟩ := hr
  show Go K _ _ s0 519 [some (.ref b), some (.ref (xad (fX K) 14 0)), some (.ref (xad (fX K) 15 0)), some (.ref (xad (fX K) 17 0)), some (.ref (xad (fX K) 18 0)), some (.int iv), none, none, none] (.int k :: [])
  refine g_istore (np := 521) (lv' := [some (.ref b), some (.ref (xad (fX K) 14 0)), some (.ref (xad (fX K) 15 0)), some (.ref (xad (fX K) 17 0)), some (.ref (xad (fX K) 18 0)), some (.int iv), some (.int k), none, none]) B.1 dL_law_519 (by decide) rfl rfl rfl ?_
  refine g_aload_n (np := 522) B.1 dL_law_521 rfl rfl ?_
  refine g_aload_n (np := 523) B.1 dL_law_522 rfl rfl ?_
  refine g_iload (np := 525) B.1 dL_law_523 rfl rfl ?_
  refine g_iconst (v := 1) (np := 526) B.1 dL_law_525 (by decide) rfl ?_
  refine g_iadd (np := 527) B.1 dL_law_526 rfl ?_
  refine g_sld (np := 528) B h1 dL_law_527 rfl ?_
  rw [e1]
  refine g_callL (np := 531) B 15 (by decide) rfl rfl rfl (n := 1) (As := [.int a1]) (oX13_cancelOrder B.1.tr a1 _ _ _ h) b_1883 b_1880 b_1881 b_1882 b_85 (by decide +kernel) rfl (Nat.le_of_ble_eq_true rfl) (Nat.le_of_ble_eq_true rfl) (Nat.le_of_ble_eq_true rfl) dL_law_528 (by omega) (by omega) rfl (fun r1 s1 hr => ?_)
  obtain ⟨bb, rfl, h⟩ := hr
  show Go K _ _ s1 531 [some (.ref b), some (.ref (xad (fX K) 14 0)), some (.ref (xad (fX K) 15 0)), some (.ref (xad (fX K) 17 0)), some (.ref (xad (fX K) 18 0)), some (.int iv), some (.int k), none, none] (.int bb :: [])
  refine g_istore (np := 533) (lv' := [some (.ref b), some (.ref (xad (fX K) 14 0)), some (.ref (xad (fX K) 15 0)), some (.ref (xad (fX K) 17 0)), some (.ref (xad (fX K) 18 0)), some (.int iv), some (.int k), some (.int bb), none]) B.1 dL_law_531 (by decide) rfl rfl rfl ?_
  refine g_aload_n (np := 534) B.1 dL_law_533 rfl rfl ?_
  refine g_callL (np := 537) B 15 (by decide) rfl rfl rfl (n := 0) (As := []) (oX13_thrown B.1.tr  _ _ _ h) b_1814 b_1811 b_1812 b_1813 b_85 (by decide +kernel) rfl (Nat.le_of_ble_eq_true rfl) (Nat.le_of_ble_eq_true rfl) (Nat.le_of_ble_eq_true rfl) dL_law_534 (by omega) (by omega) rfl (fun r2 s2 hr => ?_)
  obtain ⟨t, rfl, h⟩ := hr
  show Go K _ _ s2 537 [some (.ref b), some (.ref (xad (fX K) 14 0)), some (.ref (xad (fX K) 15 0)), some (.ref (xad (fX K) 17 0)), some (.ref (xad (fX K) 18 0)), some (.int iv), some (.int k), some (.int bb), none] (.int t :: [])
  obtain ⟨hk, hv, h⟩ := h
  refine g_iload (np := 539) B.1 dL_law_537 rfl rfl ?_
  refine g_icmp_eq (np := 542) (tgt := 544) B.1 dL_law_539 (by decide) rfl (fun _ => ?_) (fun q => absurd hk q)
  refine g_iload (np := 546) B.1 dL_law_544 rfl rfl ?_
  have key : Go K (cells + 1) (slots + 6) s2 561 [some (.ref b), some (.ref (xad (fX K) 14 0)), some (.ref (xad (fX K) 15 0)), some (.ref (xad (fX K) 17 0)), some (.ref (xad (fX K) 18 0)), some (.int iv), some (.int k), some (.int bb), none] [] := by
    refine g_goto (tgt := 2684) B.1 dL_law_561 (by decide) ?_
    refine Go.lle [some (.ref b), some (.ref (xad (fX K) 14 0)), some (.ref (xad (fX K) 15 0)), some (.ref (xad (fX K) 17 0)), some (.ref (xad (fX K) 18 0)), some (.int iv), none, none, none] (by simp [lle]) ?_
    exact Go.widen (by omega) (by omega) (kk _ h)
  refine g_if_ne (np := 549) (tgt := 561) B.1 dL_law_546 (by decide) rfl (fun _ => Go.widen (by omega) (by omega) key) (fun q => ?_)
  replace hv := hv q
  refine g_aload_n (np := 550) B.1 dL_law_549 rfl rfl ?_
  refine g_iconst (v := 0) (np := 551) B.1 dL_law_550 (by decide) rfl ?_
  refine g_lald (np := 552) B.1 dL_law_551 rfl ?_
  refine g_iload (np := 554) B.1 dL_law_552 rfl rfl ?_
  refine g_i2l (np := 555) B.1 dL_law_554 rfl ?_
  rw [hv]
  refine g_lcmp (np := 556) B.1 dL_law_555 rfl ?_
  rw [lcmp_self]
  refine g_if_eq (np := 559) (tgt := 561) B.1 dL_law_556 (by decide) rfl (fun _ => Go.widen (by omega) (by omega) key) (fun q => absurd rfl q)
def wC_4 (a1 : Int32) (s_ : Mem) (Q : Mem → Prop) : Prop := wL_setMachines a1 s_ (fun (k : Int32) (s0 : Mem) => wX13_setMachines a1 s0 (fun (bb : Int32) (s1 : Mem) => wX13_thrown  s1 (fun (t : Int32) (s2 : Mem) => t = k ∧ (k = 0 → rdL s2 = bb.toInt64) ∧ Q s2) (fun _ _ => False)) (fun _ _ => False))
set_option maxRecDepth 20000 in
set_option maxHeartbeats 4000000 in
theorem oC_4 {K : Fr} {b L : Nat} {xs : Nat → Int32} (B : BL K b L xs) {cells slots : Nat} {iv : Int32} {a1 : Int32} (h1 : vp_in (iv + 1) L) (e1 : xs (iv + 1).toNatClampNeg = a1) {s_ : Mem} {Q : Mem → Prop} (h : wC_4 a1 s_ Q) (hc : cells + 32 ≤ 603072) (hs : slots + 9000 ≤ 7202922) (kk : ∀ σ, Q σ → Go K (cells + 32) (slots + 9000) σ 2684 [some (.ref b), some (.ref (xad (fX K) 14 0)), some (.ref (xad (fX K) 15 0)), some (.ref (xad (fX K) 17 0)), some (.ref (xad (fX K) 18 0)), some (.int iv), none, none, none] []) : Go K cells slots s_ 564 [some (.ref b), some (.ref (xad (fX K) 14 0)), some (.ref (xad (fX K) 15 0)), some (.ref (xad (fX K) 17 0)), some (.ref (xad (fX K) 18 0)), some (.int iv), none, none, none] [] := by
  unfold wC_4 at h
  refine g_aload_n (np := 565) B.1 dL_law_564 rfl rfl ?_
  refine g_aload_n (np := 566) B.1 dL_law_565 rfl rfl ?_
  refine g_iload (np := 568) B.1 dL_law_566 rfl rfl ?_
  refine g_iconst (v := 1) (np := 569) B.1 dL_law_568 (by decide) rfl ?_
  refine g_iadd (np := 570) B.1 dL_law_569 rfl ?_
  refine g_sld (np := 571) B h1 dL_law_570 rfl ?_
  rw [e1]
  refine g_aload_n (np := 572) B.1 dL_law_571 rfl rfl ?_
  refine g_callW (np := 575) B (n := 3) (As := [.ref (xad (fX K) 14 0), .int a1, .ref (xad (fX K) 17 0)]) (oL_setMachines B.1.tr a1 _ _ h) b_1310 b_1308 b_1309 b_69 (by decide +kernel) rfl (Nat.le_of_ble_eq_true rfl) (Nat.le_of_ble_eq_true rfl) (Nat.le_of_ble_eq_true rfl) dL_law_572 (by omega) (by omega) rfl (fun r0 s0 hr => ?_)
  obtain ⟨k, rfl, h⟩ := hr
  show Go K _ _ s0 575 [some (.ref b), some (.ref (xad (fX K) 14 0)), some (.ref (xad (fX K) 15 0)), some (.ref (xad (fX K) 17 0)), some (.ref (xad (fX K) 18 0)), some (.int iv), none, none, none] (.int k :: [])
  refine g_istore (np := 577) (lv' := [some (.ref b), some (.ref (xad (fX K) 14 0)), some (.ref (xad (fX K) 15 0)), some (.ref (xad (fX K) 17 0)), some (.ref (xad (fX K) 18 0)), some (.int iv), some (.int k), none, none]) B.1 dL_law_575 (by decide) rfl rfl rfl ?_
  refine g_aload_n (np := 578) B.1 dL_law_577 rfl rfl ?_
  refine g_aload_n (np := 579) B.1 dL_law_578 rfl rfl ?_
  refine g_iload (np := 581) B.1 dL_law_579 rfl rfl ?_
  refine g_iconst (v := 1) (np := 582) B.1 dL_law_581 (by decide) rfl ?_
  refine g_iadd (np := 583) B.1 dL_law_582 rfl ?_
  refine g_sld (np := 584) B h1 dL_law_583 rfl ?_
  rw [e1]
  refine g_callL (np := 587) B 15 (by decide) rfl rfl rfl (n := 1) (As := [.int a1]) (oX13_setMachines B.1.tr a1 _ _ _ h) b_1899 b_1896 b_1897 b_1898 b_85 (by decide +kernel) rfl (Nat.le_of_ble_eq_true rfl) (Nat.le_of_ble_eq_true rfl) (Nat.le_of_ble_eq_true rfl) dL_law_584 (by omega) (by omega) rfl (fun r1 s1 hr => ?_)
  obtain ⟨bb, rfl, h⟩ := hr
  show Go K _ _ s1 587 [some (.ref b), some (.ref (xad (fX K) 14 0)), some (.ref (xad (fX K) 15 0)), some (.ref (xad (fX K) 17 0)), some (.ref (xad (fX K) 18 0)), some (.int iv), some (.int k), none, none] (.int bb :: [])
  refine g_istore (np := 589) (lv' := [some (.ref b), some (.ref (xad (fX K) 14 0)), some (.ref (xad (fX K) 15 0)), some (.ref (xad (fX K) 17 0)), some (.ref (xad (fX K) 18 0)), some (.int iv), some (.int k), some (.int bb), none]) B.1 dL_law_587 (by decide) rfl rfl rfl ?_
  refine g_aload_n (np := 590) B.1 dL_law_589 rfl rfl ?_
  refine g_callL (np := 593) B 15 (by decide) rfl rfl rfl (n := 0) (As := []) (oX13_thrown B.1.tr  _ _ _ h) b_1814 b_1811 b_1812 b_1813 b_85 (by decide +kernel) rfl (Nat.le_of_ble_eq_true rfl) (Nat.le_of_ble_eq_true rfl) (Nat.le_of_ble_eq_true rfl) dL_law_590 (by omega) (by omega) rfl (fun r2 s2 hr => ?_)
  obtain ⟨t, rfl, h⟩ := hr
  show Go K _ _ s2 593 [some (.ref b), some (.ref (xad (fX K) 14 0)), some (.ref (xad (fX K) 15 0)), some (.ref (xad (fX K) 17 0)), some (.ref (xad (fX K) 18 0)), some (.int iv), some (.int k), some (.int bb), none] (.int t :: [])
  obtain ⟨hk, hv, h⟩ := h
  refine g_iload (np := 595) B.1 dL_law_593 rfl rfl ?_
  refine g_icmp_eq (np := 598) (tgt := 600) B.1 dL_law_595 (by decide) rfl (fun _ => ?_) (fun q => absurd hk q)
  refine g_iload (np := 602) B.1 dL_law_600 rfl rfl ?_
  have key : Go K (cells + 1) (slots + 6) s2 617 [some (.ref b), some (.ref (xad (fX K) 14 0)), some (.ref (xad (fX K) 15 0)), some (.ref (xad (fX K) 17 0)), some (.ref (xad (fX K) 18 0)), some (.int iv), some (.int k), some (.int bb), none] [] := by
    refine g_goto (tgt := 2684) B.1 dL_law_617 (by decide) ?_
    refine Go.lle [some (.ref b), some (.ref (xad (fX K) 14 0)), some (.ref (xad (fX K) 15 0)), some (.ref (xad (fX K) 17 0)), some (.ref (xad (fX K) 18 0)), some (.int iv), none, none, none] (by simp [lle]) ?_
    exact Go.widen (by omega) (by omega) (kk _ h)
  refine g_if_ne (np := 605) (tgt := 617) B.1 dL_law_602 (by decide) rfl (fun _ => Go.widen (by omega) (by omega) key) (fun q => ?_)
  replace hv := hv q
  refine g_aload_n (np := 606) B.1 dL_law_605 rfl rfl ?_
  refine g_iconst (v := 0) (np := 607) B.1 dL_law_606 (by decide) rfl ?_
  refine g_lald (np := 608) B.1 dL_law_607 rfl ?_
  refine g_iload (np := 610) B.1 dL_law_608 rfl rfl ?_
  refine g_i2l (np := 611) B.1 dL_law_610 rfl ?_
  rw [hv]
  refine g_lcmp (np := 612) B.1 dL_law_611 rfl ?_
  rw [lcmp_self]
  refine g_if_eq (np := 615) (tgt := 617) B.1 dL_law_612 (by decide) rfl (fun _ => Go.widen (by omega) (by omega) key) (fun q => absurd rfl q)
def wC_5 (a1 : Int32) (s_ : Mem) (Q : Mem → Prop) : Prop := wL_spin a1 s_ (fun (k : Int32) (s0 : Mem) => wX13_spin a1 s0 (fun (bb : Int32) (s1 : Mem) => wX13_thrown  s1 (fun (t : Int32) (s2 : Mem) => t = k ∧ (k = 0 → rdL s2 = bb.toInt64) ∧ Q s2) (fun _ _ => False)) (fun _ _ => False))
set_option maxRecDepth 20000 in
set_option maxHeartbeats 4000000 in
theorem oC_5 {K : Fr} {b L : Nat} {xs : Nat → Int32} (B : BL K b L xs) {cells slots : Nat} {iv : Int32} {a1 : Int32} (h1 : vp_in (iv + 1) L) (e1 : xs (iv + 1).toNatClampNeg = a1) {s_ : Mem} {Q : Mem → Prop} (h : wC_5 a1 s_ Q) (hc : cells + 32 ≤ 603072) (hs : slots + 9000 ≤ 7202922) (kk : ∀ σ, Q σ → Go K (cells + 32) (slots + 9000) σ 2684 [some (.ref b), some (.ref (xad (fX K) 14 0)), some (.ref (xad (fX K) 15 0)), some (.ref (xad (fX K) 17 0)), some (.ref (xad (fX K) 18 0)), some (.int iv), none, none, none] []) : Go K cells slots s_ 620 [some (.ref b), some (.ref (xad (fX K) 14 0)), some (.ref (xad (fX K) 15 0)), some (.ref (xad (fX K) 17 0)), some (.ref (xad (fX K) 18 0)), some (.int iv), none, none, none] [] := by
  unfold wC_5 at h
  refine g_aload_n (np := 621) B.1 dL_law_620 rfl rfl ?_
  refine g_aload_n (np := 622) B.1 dL_law_621 rfl rfl ?_
  refine g_iload (np := 624) B.1 dL_law_622 rfl rfl ?_
  refine g_iconst (v := 1) (np := 625) B.1 dL_law_624 (by decide) rfl ?_
  refine g_iadd (np := 626) B.1 dL_law_625 rfl ?_
  refine g_sld (np := 627) B h1 dL_law_626 rfl ?_
  rw [e1]
  refine g_aload_n (np := 628) B.1 dL_law_627 rfl rfl ?_
  refine g_callW (np := 631) B (n := 3) (As := [.ref (xad (fX K) 14 0), .int a1, .ref (xad (fX K) 17 0)]) (oL_spin B.1.tr a1 _ _ h) b_1319 b_1317 b_1318 b_69 (by decide +kernel) rfl (Nat.le_of_ble_eq_true rfl) (Nat.le_of_ble_eq_true rfl) (Nat.le_of_ble_eq_true rfl) dL_law_628 (by omega) (by omega) rfl (fun r0 s0 hr => ?_)
  obtain ⟨k, rfl, h⟩ := hr
  show Go K _ _ s0 631 [some (.ref b), some (.ref (xad (fX K) 14 0)), some (.ref (xad (fX K) 15 0)), some (.ref (xad (fX K) 17 0)), some (.ref (xad (fX K) 18 0)), some (.int iv), none, none, none] (.int k :: [])
  refine g_istore (np := 633) (lv' := [some (.ref b), some (.ref (xad (fX K) 14 0)), some (.ref (xad (fX K) 15 0)), some (.ref (xad (fX K) 17 0)), some (.ref (xad (fX K) 18 0)), some (.int iv), some (.int k), none, none]) B.1 dL_law_631 (by decide) rfl rfl rfl ?_
  refine g_aload_n (np := 634) B.1 dL_law_633 rfl rfl ?_
  refine g_aload_n (np := 635) B.1 dL_law_634 rfl rfl ?_
  refine g_iload (np := 637) B.1 dL_law_635 rfl rfl ?_
  refine g_iconst (v := 1) (np := 638) B.1 dL_law_637 (by decide) rfl ?_
  refine g_iadd (np := 639) B.1 dL_law_638 rfl ?_
  refine g_sld (np := 640) B h1 dL_law_639 rfl ?_
  rw [e1]
  refine g_callL (np := 643) B 15 (by decide) rfl rfl rfl (n := 1) (As := [.int a1]) (oX13_spin B.1.tr a1 _ _ _ h) b_1907 b_1904 b_1905 b_1906 b_85 (by decide +kernel) rfl (Nat.le_of_ble_eq_true rfl) (Nat.le_of_ble_eq_true rfl) (Nat.le_of_ble_eq_true rfl) dL_law_640 (by omega) (by omega) rfl (fun r1 s1 hr => ?_)
  obtain ⟨bb, rfl, h⟩ := hr
  show Go K _ _ s1 643 [some (.ref b), some (.ref (xad (fX K) 14 0)), some (.ref (xad (fX K) 15 0)), some (.ref (xad (fX K) 17 0)), some (.ref (xad (fX K) 18 0)), some (.int iv), some (.int k), none, none] (.int bb :: [])
  refine g_istore (np := 645) (lv' := [some (.ref b), some (.ref (xad (fX K) 14 0)), some (.ref (xad (fX K) 15 0)), some (.ref (xad (fX K) 17 0)), some (.ref (xad (fX K) 18 0)), some (.int iv), some (.int k), some (.int bb), none]) B.1 dL_law_643 (by decide) rfl rfl rfl ?_
  refine g_aload_n (np := 646) B.1 dL_law_645 rfl rfl ?_
  refine g_callL (np := 649) B 15 (by decide) rfl rfl rfl (n := 0) (As := []) (oX13_thrown B.1.tr  _ _ _ h) b_1814 b_1811 b_1812 b_1813 b_85 (by decide +kernel) rfl (Nat.le_of_ble_eq_true rfl) (Nat.le_of_ble_eq_true rfl) (Nat.le_of_ble_eq_true rfl) dL_law_646 (by omega) (by omega) rfl (fun r2 s2 hr => ?_)
  obtain ⟨t, rfl, h⟩ := hr
  show Go K _ _ s2 649 [some (.ref b), some (.ref (xad (fX K) 14 0)), some (.ref (xad (fX K) 15 0)), some (.ref (xad (fX K) 17 0)), some (.ref (xad (fX K) 18 0)), some (.int iv), some (.int k), some (.int bb), none] (.int t :: [])
  obtain ⟨hk, hv, h⟩ := h
  refine g_iload (np := 651) B.1 dL_law_649 rfl rfl ?_
  refine g_icmp_eq (np := 654) (tgt := 656) B.1 dL_law_651 (by decide) rfl (fun _ => ?_) (fun q => absurd hk q)
  refine g_iload (np := 658) B.1 dL_law_656 rfl rfl ?_
  have key : Go K (cells + 1) (slots + 6) s2 673 [some (.ref b), some (.ref (xad (fX K) 14 0)), some (.ref (xad (fX K) 15 0)), some (.ref (xad (fX K) 17 0)), some (.ref (xad (fX K) 18 0)), some (.int iv), some (.int k), some (.int bb), none] [] := by
    refine g_goto (tgt := 2684) B.1 dL_law_673 (by decide) ?_
    refine Go.lle [some (.ref b), some (.ref (xad (fX K) 14 0)), some (.ref (xad (fX K) 15 0)), some (.ref (xad (fX K) 17 0)), some (.ref (xad (fX K) 18 0)), some (.int iv), none, none, none] (by simp [lle]) ?_
    exact Go.widen (by omega) (by omega) (kk _ h)
  refine g_if_ne (np := 661) (tgt := 673) B.1 dL_law_658 (by decide) rfl (fun _ => Go.widen (by omega) (by omega) key) (fun q => ?_)
  replace hv := hv q
  refine g_aload_n (np := 662) B.1 dL_law_661 rfl rfl ?_
  refine g_iconst (v := 0) (np := 663) B.1 dL_law_662 (by decide) rfl ?_
  refine g_lald (np := 664) B.1 dL_law_663 rfl ?_
  refine g_iload (np := 666) B.1 dL_law_664 rfl rfl ?_
  refine g_i2l (np := 667) B.1 dL_law_666 rfl ?_
  rw [hv]
  refine g_lcmp (np := 668) B.1 dL_law_667 rfl ?_
  rw [lcmp_self]
  refine g_if_eq (np := 671) (tgt := 673) B.1 dL_law_668 (by decide) rfl (fun _ => Go.widen (by omega) (by omega) key) (fun q => absurd rfl q)
def wC_6 (a1 : Int32) (s_ : Mem) (Q : Mem → Prop) : Prop := wL_splice a1 s_ (fun (k : Int32) (s0 : Mem) => wX13_splice a1 s0 (fun (bb : Int32) (s1 : Mem) => wX13_thrown  s1 (fun (t : Int32) (s2 : Mem) => t = k ∧ (k = 0 → rdL s2 = bb.toInt64) ∧ Q s2) (fun _ _ => False)) (fun _ _ => False))
set_option maxRecDepth 20000 in
set_option maxHeartbeats 4000000 in
theorem oC_6 {K : Fr} {b L : Nat} {xs : Nat → Int32} (B : BL K b L xs) {cells slots : Nat} {iv : Int32} {a1 : Int32} (h1 : vp_in (iv + 1) L) (e1 : xs (iv + 1).toNatClampNeg = a1) {s_ : Mem} {Q : Mem → Prop} (h : wC_6 a1 s_ Q) (hc : cells + 32 ≤ 603072) (hs : slots + 9000 ≤ 7202922) (kk : ∀ σ, Q σ → Go K (cells + 32) (slots + 9000) σ 2684 [some (.ref b), some (.ref (xad (fX K) 14 0)), some (.ref (xad (fX K) 15 0)), some (.ref (xad (fX K) 17 0)), some (.ref (xad (fX K) 18 0)), some (.int iv), none, none, none] []) : Go K cells slots s_ 676 [some (.ref b), some (.ref (xad (fX K) 14 0)), some (.ref (xad (fX K) 15 0)), some (.ref (xad (fX K) 17 0)), some (.ref (xad (fX K) 18 0)), some (.int iv), none, none, none] [] := by
  unfold wC_6 at h
  refine g_aload_n (np := 677) B.1 dL_law_676 rfl rfl ?_
  refine g_aload_n (np := 678) B.1 dL_law_677 rfl rfl ?_
  refine g_iload (np := 680) B.1 dL_law_678 rfl rfl ?_
  refine g_iconst (v := 1) (np := 681) B.1 dL_law_680 (by decide) rfl ?_
  refine g_iadd (np := 682) B.1 dL_law_681 rfl ?_
  refine g_sld (np := 683) B h1 dL_law_682 rfl ?_
  rw [e1]
  refine g_aload_n (np := 684) B.1 dL_law_683 rfl rfl ?_
  refine g_callW (np := 687) B (n := 3) (As := [.ref (xad (fX K) 14 0), .int a1, .ref (xad (fX K) 17 0)]) (oL_splice B.1.tr a1 _ _ h) b_1328 b_1326 b_1327 b_69 (by decide +kernel) rfl (Nat.le_of_ble_eq_true rfl) (Nat.le_of_ble_eq_true rfl) (Nat.le_of_ble_eq_true rfl) dL_law_684 (by omega) (by omega) rfl (fun r0 s0 hr => ?_)
  obtain ⟨k, rfl, h⟩ := hr
  show Go K _ _ s0 687 [some (.ref b), some (.ref (xad (fX K) 14 0)), some (.ref (xad (fX K) 15 0)), some (.ref (xad (fX K) 17 0)), some (.ref (xad (fX K) 18 0)), some (.int iv), none, none, none] (.int k :: [])
  refine g_istore (np := 689) (lv' := [some (.ref b), some (.ref (xad (fX K) 14 0)), some (.ref (xad (fX K) 15 0)), some (.ref (xad (fX K) 17 0)), some (.ref (xad (fX K) 18 0)), some (.int iv), some (.int k), none, none]) B.1 dL_law_687 (by decide) rfl rfl rfl ?_
  refine g_aload_n (np := 690) B.1 dL_law_689 rfl rfl ?_
  refine g_aload_n (np := 691) B.1 dL_law_690 rfl rfl ?_
  refine g_iload (np := 693) B.1 dL_law_691 rfl rfl ?_
  refine g_iconst (v := 1) (np := 694) B.1 dL_law_693 (by decide) rfl ?_
  refine g_iadd (np := 695) B.1 dL_law_694 rfl ?_
  refine g_sld (np := 696) B h1 dL_law_695 rfl ?_
  rw [e1]
  refine g_callL (np := 699) B 15 (by decide) rfl rfl rfl (n := 1) (As := [.int a1]) (oX13_splice B.1.tr a1 _ _ _ h) b_1919 b_1916 b_1917 b_1918 b_85 (by decide +kernel) rfl (Nat.le_of_ble_eq_true rfl) (Nat.le_of_ble_eq_true rfl) (Nat.le_of_ble_eq_true rfl) dL_law_696 (by omega) (by omega) rfl (fun r1 s1 hr => ?_)
  obtain ⟨bb, rfl, h⟩ := hr
  show Go K _ _ s1 699 [some (.ref b), some (.ref (xad (fX K) 14 0)), some (.ref (xad (fX K) 15 0)), some (.ref (xad (fX K) 17 0)), some (.ref (xad (fX K) 18 0)), some (.int iv), some (.int k), none, none] (.int bb :: [])
  refine g_istore (np := 701) (lv' := [some (.ref b), some (.ref (xad (fX K) 14 0)), some (.ref (xad (fX K) 15 0)), some (.ref (xad (fX K) 17 0)), some (.ref (xad (fX K) 18 0)), some (.int iv), some (.int k), some (.int bb), none]) B.1 dL_law_699 (by decide) rfl rfl rfl ?_
  refine g_aload_n (np := 702) B.1 dL_law_701 rfl rfl ?_
  refine g_callL (np := 705) B 15 (by decide) rfl rfl rfl (n := 0) (As := []) (oX13_thrown B.1.tr  _ _ _ h) b_1814 b_1811 b_1812 b_1813 b_85 (by decide +kernel) rfl (Nat.le_of_ble_eq_true rfl) (Nat.le_of_ble_eq_true rfl) (Nat.le_of_ble_eq_true rfl) dL_law_702 (by omega) (by omega) rfl (fun r2 s2 hr => ?_)
  obtain ⟨t, rfl, h⟩ := hr
  show Go K _ _ s2 705 [some (.ref b), some (.ref (xad (fX K) 14 0)), some (.ref (xad (fX K) 15 0)), some (.ref (xad (fX K) 17 0)), some (.ref (xad (fX K) 18 0)), some (.int iv), some (.int k), some (.int bb), none] (.int t :: [])
  obtain ⟨hk, hv, h⟩ := h
  refine g_iload (np := 707) B.1 dL_law_705 rfl rfl ?_
  refine g_icmp_eq (np := 710) (tgt := 712) B.1 dL_law_707 (by decide) rfl (fun _ => ?_) (fun q => absurd hk q)
  refine g_iload (np := 714) B.1 dL_law_712 rfl rfl ?_
  have key : Go K (cells + 1) (slots + 6) s2 729 [some (.ref b), some (.ref (xad (fX K) 14 0)), some (.ref (xad (fX K) 15 0)), some (.ref (xad (fX K) 17 0)), some (.ref (xad (fX K) 18 0)), some (.int iv), some (.int k), some (.int bb), none] [] := by
    refine g_goto (tgt := 2684) B.1 dL_law_729 (by decide) ?_
    refine Go.lle [some (.ref b), some (.ref (xad (fX K) 14 0)), some (.ref (xad (fX K) 15 0)), some (.ref (xad (fX K) 17 0)), some (.ref (xad (fX K) 18 0)), some (.int iv), none, none, none] (by simp [lle]) ?_
    exact Go.widen (by omega) (by omega) (kk _ h)
  refine g_if_ne (np := 717) (tgt := 729) B.1 dL_law_714 (by decide) rfl (fun _ => Go.widen (by omega) (by omega) key) (fun q => ?_)
  replace hv := hv q
  refine g_aload_n (np := 718) B.1 dL_law_717 rfl rfl ?_
  refine g_iconst (v := 0) (np := 719) B.1 dL_law_718 (by decide) rfl ?_
  refine g_lald (np := 720) B.1 dL_law_719 rfl ?_
  refine g_iload (np := 722) B.1 dL_law_720 rfl rfl ?_
  refine g_i2l (np := 723) B.1 dL_law_722 rfl ?_
  rw [hv]
  refine g_lcmp (np := 724) B.1 dL_law_723 rfl ?_
  rw [lcmp_self]
  refine g_if_eq (np := 727) (tgt := 729) B.1 dL_law_724 (by decide) rfl (fun _ => Go.widen (by omega) (by omega) key) (fun q => absurd rfl q)
def wC_7 (s_ : Mem) (Q : Mem → Prop) : Prop := wL_spliceAll  s_ (fun (k : Int32) (s0 : Mem) => wX13_spliceAll  s0 (fun (bb : Int32) (s1 : Mem) => wX13_thrown  s1 (fun (t : Int32) (s2 : Mem) => t = k ∧ (k = 0 → rdL s2 = bb.toInt64) ∧ Q s2) (fun _ _ => False)) (fun _ _ => False))
set_option maxRecDepth 20000 in
set_option maxHeartbeats 4000000 in
theorem oC_7 {K : Fr} {b L : Nat} {xs : Nat → Int32} (B : BL K b L xs) {cells slots : Nat} {iv : Int32} {s_ : Mem} {Q : Mem → Prop} (h : wC_7  s_ Q) (hc : cells + 32 ≤ 603072) (hs : slots + 9000 ≤ 7202922) (kk : ∀ σ, Q σ → Go K (cells + 32) (slots + 9000) σ 2684 [some (.ref b), some (.ref (xad (fX K) 14 0)), some (.ref (xad (fX K) 15 0)), some (.ref (xad (fX K) 17 0)), some (.ref (xad (fX K) 18 0)), some (.int iv), none, none, none] []) : Go K cells slots s_ 732 [some (.ref b), some (.ref (xad (fX K) 14 0)), some (.ref (xad (fX K) 15 0)), some (.ref (xad (fX K) 17 0)), some (.ref (xad (fX K) 18 0)), some (.int iv), none, none, none] [] := by
  unfold wC_7 at h
  refine g_aload_n (np := 733) B.1 dL_law_732 rfl rfl ?_
  refine g_aload_n (np := 734) B.1 dL_law_733 rfl rfl ?_
  refine g_callW (np := 737) B (n := 2) (As := [.ref (xad (fX K) 14 0), .ref (xad (fX K) 17 0)]) (oL_spliceAll B.1.tr  _ _ h) b_1340 b_1338 b_1339 b_69 (by decide +kernel) rfl (Nat.le_of_ble_eq_true rfl) (Nat.le_of_ble_eq_true rfl) (Nat.le_of_ble_eq_true rfl) dL_law_734 (by omega) (by omega) rfl (fun r0 s0 hr => ?_)
  obtain ⟨k, rfl, h⟩ := hr
  show Go K _ _ s0 737 [some (.ref b), some (.ref (xad (fX K) 14 0)), some (.ref (xad (fX K) 15 0)), some (.ref (xad (fX K) 17 0)), some (.ref (xad (fX K) 18 0)), some (.int iv), none, none, none] (.int k :: [])
  refine g_istore (np := 739) (lv' := [some (.ref b), some (.ref (xad (fX K) 14 0)), some (.ref (xad (fX K) 15 0)), some (.ref (xad (fX K) 17 0)), some (.ref (xad (fX K) 18 0)), some (.int iv), some (.int k), none, none]) B.1 dL_law_737 (by decide) rfl rfl rfl ?_
  refine g_aload_n (np := 740) B.1 dL_law_739 rfl rfl ?_
  refine g_callL (np := 743) B 15 (by decide) rfl rfl rfl (n := 0) (As := []) (oX13_spliceAll B.1.tr  _ _ _ h) b_1931 b_1928 b_1929 b_1930 b_85 (by decide +kernel) rfl (Nat.le_of_ble_eq_true rfl) (Nat.le_of_ble_eq_true rfl) (Nat.le_of_ble_eq_true rfl) dL_law_740 (by omega) (by omega) rfl (fun r1 s1 hr => ?_)
  obtain ⟨bb, rfl, h⟩ := hr
  show Go K _ _ s1 743 [some (.ref b), some (.ref (xad (fX K) 14 0)), some (.ref (xad (fX K) 15 0)), some (.ref (xad (fX K) 17 0)), some (.ref (xad (fX K) 18 0)), some (.int iv), some (.int k), none, none] (.int bb :: [])
  refine g_istore (np := 745) (lv' := [some (.ref b), some (.ref (xad (fX K) 14 0)), some (.ref (xad (fX K) 15 0)), some (.ref (xad (fX K) 17 0)), some (.ref (xad (fX K) 18 0)), some (.int iv), some (.int k), some (.int bb), none]) B.1 dL_law_743 (by decide) rfl rfl rfl ?_
  refine g_aload_n (np := 746) B.1 dL_law_745 rfl rfl ?_
  refine g_callL (np := 749) B 15 (by decide) rfl rfl rfl (n := 0) (As := []) (oX13_thrown B.1.tr  _ _ _ h) b_1814 b_1811 b_1812 b_1813 b_85 (by decide +kernel) rfl (Nat.le_of_ble_eq_true rfl) (Nat.le_of_ble_eq_true rfl) (Nat.le_of_ble_eq_true rfl) dL_law_746 (by omega) (by omega) rfl (fun r2 s2 hr => ?_)
  obtain ⟨t, rfl, h⟩ := hr
  show Go K _ _ s2 749 [some (.ref b), some (.ref (xad (fX K) 14 0)), some (.ref (xad (fX K) 15 0)), some (.ref (xad (fX K) 17 0)), some (.ref (xad (fX K) 18 0)), some (.int iv), some (.int k), some (.int bb), none] (.int t :: [])
  obtain ⟨hk, hv, h⟩ := h
  refine g_iload (np := 751) B.1 dL_law_749 rfl rfl ?_
  refine g_icmp_eq (np := 754) (tgt := 756) B.1 dL_law_751 (by decide) rfl (fun _ => ?_) (fun q => absurd hk q)
  refine g_iload (np := 758) B.1 dL_law_756 rfl rfl ?_
  have key : Go K (cells + 1) (slots + 6) s2 773 [some (.ref b), some (.ref (xad (fX K) 14 0)), some (.ref (xad (fX K) 15 0)), some (.ref (xad (fX K) 17 0)), some (.ref (xad (fX K) 18 0)), some (.int iv), some (.int k), some (.int bb), none] [] := by
    refine g_goto (tgt := 2684) B.1 dL_law_773 (by decide) ?_
    refine Go.lle [some (.ref b), some (.ref (xad (fX K) 14 0)), some (.ref (xad (fX K) 15 0)), some (.ref (xad (fX K) 17 0)), some (.ref (xad (fX K) 18 0)), some (.int iv), none, none, none] (by simp [lle]) ?_
    exact Go.widen (by omega) (by omega) (kk _ h)
  refine g_if_ne (np := 761) (tgt := 773) B.1 dL_law_758 (by decide) rfl (fun _ => Go.widen (by omega) (by omega) key) (fun q => ?_)
  replace hv := hv q
  refine g_aload_n (np := 762) B.1 dL_law_761 rfl rfl ?_
  refine g_iconst (v := 0) (np := 763) B.1 dL_law_762 (by decide) rfl ?_
  refine g_lald (np := 764) B.1 dL_law_763 rfl ?_
  refine g_iload (np := 766) B.1 dL_law_764 rfl rfl ?_
  refine g_i2l (np := 767) B.1 dL_law_766 rfl ?_
  rw [hv]
  refine g_lcmp (np := 768) B.1 dL_law_767 rfl ?_
  rw [lcmp_self]
  refine g_if_eq (np := 771) (tgt := 773) B.1 dL_law_768 (by decide) rfl (fun _ => Go.widen (by omega) (by omega) key) (fun q => absurd rfl q)
def wC_8 (a1 : Int32) (s_ : Mem) (Q : Mem → Prop) : Prop := wL_sell a1 s_ (fun (k : Int32) (s0 : Mem) => wX13_sell a1 s0 (fun (bb : Int32) (s1 : Mem) => wX13_thrown  s1 (fun (t : Int32) (s2 : Mem) => t = k ∧ (k = 0 → rdL s2 = bb.toInt64) ∧ Q s2) (fun _ _ => False)) (fun _ _ => False))
set_option maxRecDepth 20000 in
set_option maxHeartbeats 4000000 in
theorem oC_8 {K : Fr} {b L : Nat} {xs : Nat → Int32} (B : BL K b L xs) {cells slots : Nat} {iv : Int32} {a1 : Int32} (h1 : vp_in (iv + 1) L) (e1 : xs (iv + 1).toNatClampNeg = a1) {s_ : Mem} {Q : Mem → Prop} (h : wC_8 a1 s_ Q) (hc : cells + 32 ≤ 603072) (hs : slots + 9000 ≤ 7202922) (kk : ∀ σ, Q σ → Go K (cells + 32) (slots + 9000) σ 2684 [some (.ref b), some (.ref (xad (fX K) 14 0)), some (.ref (xad (fX K) 15 0)), some (.ref (xad (fX K) 17 0)), some (.ref (xad (fX K) 18 0)), some (.int iv), none, none, none] []) : Go K cells slots s_ 776 [some (.ref b), some (.ref (xad (fX K) 14 0)), some (.ref (xad (fX K) 15 0)), some (.ref (xad (fX K) 17 0)), some (.ref (xad (fX K) 18 0)), some (.int iv), none, none, none] [] := by
  unfold wC_8 at h
  refine g_aload_n (np := 777) B.1 dL_law_776 rfl rfl ?_
  refine g_aload_n (np := 778) B.1 dL_law_777 rfl rfl ?_
  refine g_iload (np := 780) B.1 dL_law_778 rfl rfl ?_
  refine g_iconst (v := 1) (np := 781) B.1 dL_law_780 (by decide) rfl ?_
  refine g_iadd (np := 782) B.1 dL_law_781 rfl ?_
  refine g_sld (np := 783) B h1 dL_law_782 rfl ?_
  rw [e1]
  refine g_aload_n (np := 784) B.1 dL_law_783 rfl rfl ?_
  refine g_callW (np := 787) B (n := 3) (As := [.ref (xad (fX K) 14 0), .int a1, .ref (xad (fX K) 17 0)]) (oL_sell B.1.tr a1 _ _ h) b_1349 b_1347 b_1348 b_69 (by decide +kernel) rfl (Nat.le_of_ble_eq_true rfl) (Nat.le_of_ble_eq_true rfl) (Nat.le_of_ble_eq_true rfl) dL_law_784 (by omega) (by omega) rfl (fun r0 s0 hr => ?_)
  obtain ⟨k, rfl, h⟩ := hr
  show Go K _ _ s0 787 [some (.ref b), some (.ref (xad (fX K) 14 0)), some (.ref (xad (fX K) 15 0)), some (.ref (xad (fX K) 17 0)), some (.ref (xad (fX K) 18 0)), some (.int iv), none, none, none] (.int k :: [])
  refine g_istore (np := 789) (lv' := [some (.ref b), some (.ref (xad (fX K) 14 0)), some (.ref (xad (fX K) 15 0)), some (.ref (xad (fX K) 17 0)), some (.ref (xad (fX K) 18 0)), some (.int iv), some (.int k), none, none]) B.1 dL_law_787 (by decide) rfl rfl rfl ?_
  refine g_aload_n (np := 790) B.1 dL_law_789 rfl rfl ?_
  refine g_aload_n (np := 791) B.1 dL_law_790 rfl rfl ?_
  refine g_iload (np := 793) B.1 dL_law_791 rfl rfl ?_
  refine g_iconst (v := 1) (np := 794) B.1 dL_law_793 (by decide) rfl ?_
  refine g_iadd (np := 795) B.1 dL_law_794 rfl ?_
  refine g_sld (np := 796) B h1 dL_law_795 rfl ?_
  rw [e1]
  refine g_callL (np := 799) B 15 (by decide) rfl rfl rfl (n := 1) (As := [.int a1]) (oX13_sell B.1.tr a1 _ _ _ h) b_1948 b_1945 b_1946 b_1947 b_85 (by decide +kernel) rfl (Nat.le_of_ble_eq_true rfl) (Nat.le_of_ble_eq_true rfl) (Nat.le_of_ble_eq_true rfl) dL_law_796 (by omega) (by omega) rfl (fun r1 s1 hr => ?_)
  obtain ⟨bb, rfl, h⟩ := hr
  show Go K _ _ s1 799 [some (.ref b), some (.ref (xad (fX K) 14 0)), some (.ref (xad (fX K) 15 0)), some (.ref (xad (fX K) 17 0)), some (.ref (xad (fX K) 18 0)), some (.int iv), some (.int k), none, none] (.int bb :: [])
  refine g_istore (np := 801) (lv' := [some (.ref b), some (.ref (xad (fX K) 14 0)), some (.ref (xad (fX K) 15 0)), some (.ref (xad (fX K) 17 0)), some (.ref (xad (fX K) 18 0)), some (.int iv), some (.int k), some (.int bb), none]) B.1 dL_law_799 (by decide) rfl rfl rfl ?_
  refine g_aload_n (np := 802) B.1 dL_law_801 rfl rfl ?_
  refine g_callL (np := 805) B 15 (by decide) rfl rfl rfl (n := 0) (As := []) (oX13_thrown B.1.tr  _ _ _ h) b_1814 b_1811 b_1812 b_1813 b_85 (by decide +kernel) rfl (Nat.le_of_ble_eq_true rfl) (Nat.le_of_ble_eq_true rfl) (Nat.le_of_ble_eq_true rfl) dL_law_802 (by omega) (by omega) rfl (fun r2 s2 hr => ?_)
  obtain ⟨t, rfl, h⟩ := hr
  show Go K _ _ s2 805 [some (.ref b), some (.ref (xad (fX K) 14 0)), some (.ref (xad (fX K) 15 0)), some (.ref (xad (fX K) 17 0)), some (.ref (xad (fX K) 18 0)), some (.int iv), some (.int k), some (.int bb), none] (.int t :: [])
  obtain ⟨hk, hv, h⟩ := h
  refine g_iload (np := 807) B.1 dL_law_805 rfl rfl ?_
  refine g_icmp_eq (np := 810) (tgt := 812) B.1 dL_law_807 (by decide) rfl (fun _ => ?_) (fun q => absurd hk q)
  refine g_iload (np := 814) B.1 dL_law_812 rfl rfl ?_
  have key : Go K (cells + 1) (slots + 6) s2 829 [some (.ref b), some (.ref (xad (fX K) 14 0)), some (.ref (xad (fX K) 15 0)), some (.ref (xad (fX K) 17 0)), some (.ref (xad (fX K) 18 0)), some (.int iv), some (.int k), some (.int bb), none] [] := by
    refine g_goto (tgt := 2684) B.1 dL_law_829 (by decide) ?_
    refine Go.lle [some (.ref b), some (.ref (xad (fX K) 14 0)), some (.ref (xad (fX K) 15 0)), some (.ref (xad (fX K) 17 0)), some (.ref (xad (fX K) 18 0)), some (.int iv), none, none, none] (by simp [lle]) ?_
    exact Go.widen (by omega) (by omega) (kk _ h)
  refine g_if_ne (np := 817) (tgt := 829) B.1 dL_law_814 (by decide) rfl (fun _ => Go.widen (by omega) (by omega) key) (fun q => ?_)
  replace hv := hv q
  refine g_aload_n (np := 818) B.1 dL_law_817 rfl rfl ?_
  refine g_iconst (v := 0) (np := 819) B.1 dL_law_818 (by decide) rfl ?_
  refine g_lald (np := 820) B.1 dL_law_819 rfl ?_
  refine g_iload (np := 822) B.1 dL_law_820 rfl rfl ?_
  refine g_i2l (np := 823) B.1 dL_law_822 rfl ?_
  rw [hv]
  refine g_lcmp (np := 824) B.1 dL_law_823 rfl ?_
  rw [lcmp_self]
  refine g_if_eq (np := 827) (tgt := 829) B.1 dL_law_824 (by decide) rfl (fun _ => Go.widen (by omega) (by omega) key) (fun q => absurd rfl q)
def wC_9 (s_ : Mem) (Q : Mem → Prop) : Prop := wX12_baleCount  s_ (fun (r1 : Int32) (s1 : Mem) => wX13_baleCount  s1 (fun (r2 : Int32) (s2 : Mem) => r1 = r2 ∧ Q s2) (fun _ _ => False)) (fun _ _ => False)
set_option maxRecDepth 20000 in
set_option maxHeartbeats 4000000 in
theorem oC_9 {K : Fr} {b L : Nat} {xs : Nat → Int32} (B : BL K b L xs) {cells slots : Nat} {iv : Int32} {s_ : Mem} {Q : Mem → Prop} (h : wC_9  s_ Q) (hc : cells + 32 ≤ 603072) (hs : slots + 9000 ≤ 7202922) (kk : ∀ σ, Q σ → Go K (cells + 32) (slots + 9000) σ 2684 [some (.ref b), some (.ref (xad (fX K) 14 0)), some (.ref (xad (fX K) 15 0)), some (.ref (xad (fX K) 17 0)), some (.ref (xad (fX K) 18 0)), some (.int iv), none, none, none] []) : Go K cells slots s_ 832 [some (.ref b), some (.ref (xad (fX K) 14 0)), some (.ref (xad (fX K) 15 0)), some (.ref (xad (fX K) 17 0)), some (.ref (xad (fX K) 18 0)), some (.int iv), none, none, none] [] := by
  unfold wC_9 at h
  refine g_aload_n (np := 833) B.1 dL_law_832 rfl rfl ?_
  refine g_callL (np := 836) B 14 (by decide) rfl rfl rfl (n := 0) (As := []) (oX12_baleCount B.1.tr  _ _ _ h) b_437 b_434 b_435 b_436 b_70 (by decide +kernel) rfl (Nat.le_of_ble_eq_true rfl) (Nat.le_of_ble_eq_true rfl) (Nat.le_of_ble_eq_true rfl) dL_law_833 (by omega) (by omega) rfl (fun r1 s1 hr => ?_)
  obtain ⟨r1, rfl, h⟩ := hr
  show Go K _ _ s1 836 [some (.ref b), some (.ref (xad (fX K) 14 0)), some (.ref (xad (fX K) 15 0)), some (.ref (xad (fX K) 17 0)), some (.ref (xad (fX K) 18 0)), some (.int iv), none, none, none] (.int r1 :: [])
  refine g_aload_n (np := 837) B.1 dL_law_836 rfl rfl ?_
  refine g_callL (np := 840) B 15 (by decide) rfl rfl rfl (n := 0) (As := []) (oX13_baleCount B.1.tr  _ _ _ h) b_1960 b_1957 b_1958 b_1959 b_85 (by decide +kernel) rfl (Nat.le_of_ble_eq_true rfl) (Nat.le_of_ble_eq_true rfl) (Nat.le_of_ble_eq_true rfl) dL_law_837 (by omega) (by omega) rfl (fun r2 s2 hr => ?_)
  obtain ⟨r2, rfl, h⟩ := hr
  show Go K _ _ s2 840 [some (.ref b), some (.ref (xad (fX K) 14 0)), some (.ref (xad (fX K) 15 0)), some (.ref (xad (fX K) 17 0)), some (.ref (xad (fX K) 18 0)), some (.int iv), none, none, none] (.int r2 :: .int r1 :: [])
  obtain ⟨he, h⟩ := h
  refine g_icmp_eq (np := 843) (tgt := 2684) B.1 dL_law_840 (by decide) rfl (fun _ => ?_) (fun q => absurd he q)
  exact Go.widen (by omega) (by omega) (kk _ h)
def wC_10 (a1 : Int32) (s_ : Mem) (Q : Mem → Prop) : Prop := wL_baleAt a1 s_ (fun (k : Int32) (s0 : Mem) => wX13_baleAt a1 s0 (fun (bb : Int32) (s1 : Mem) => wX13_thrown  s1 (fun (t : Int32) (s2 : Mem) => t = k ∧ (k = 0 → rdL s2 = bb.toInt64) ∧ Q s2) (fun _ _ => False)) (fun _ _ => False))
set_option maxRecDepth 20000 in
set_option maxHeartbeats 4000000 in
theorem oC_10 {K : Fr} {b L : Nat} {xs : Nat → Int32} (B : BL K b L xs) {cells slots : Nat} {iv : Int32} {a1 : Int32} (h1 : vp_in (iv + 1) L) (e1 : xs (iv + 1).toNatClampNeg = a1) {s_ : Mem} {Q : Mem → Prop} (h : wC_10 a1 s_ Q) (hc : cells + 32 ≤ 603072) (hs : slots + 9000 ≤ 7202922) (kk : ∀ σ, Q σ → Go K (cells + 32) (slots + 9000) σ 2684 [some (.ref b), some (.ref (xad (fX K) 14 0)), some (.ref (xad (fX K) 15 0)), some (.ref (xad (fX K) 17 0)), some (.ref (xad (fX K) 18 0)), some (.int iv), none, none, none] []) : Go K cells slots s_ 845 [some (.ref b), some (.ref (xad (fX K) 14 0)), some (.ref (xad (fX K) 15 0)), some (.ref (xad (fX K) 17 0)), some (.ref (xad (fX K) 18 0)), some (.int iv), none, none, none] [] := by
  unfold wC_10 at h
  refine g_aload_n (np := 846) B.1 dL_law_845 rfl rfl ?_
  refine g_aload_n (np := 847) B.1 dL_law_846 rfl rfl ?_
  refine g_iload (np := 849) B.1 dL_law_847 rfl rfl ?_
  refine g_iconst (v := 1) (np := 850) B.1 dL_law_849 (by decide) rfl ?_
  refine g_iadd (np := 851) B.1 dL_law_850 rfl ?_
  refine g_sld (np := 852) B h1 dL_law_851 rfl ?_
  rw [e1]
  refine g_aload_n (np := 853) B.1 dL_law_852 rfl rfl ?_
  refine g_callW (np := 856) B (n := 3) (As := [.ref (xad (fX K) 14 0), .int a1, .ref (xad (fX K) 17 0)]) (oL_baleAt B.1.tr a1 _ _ h) b_1358 b_1356 b_1357 b_69 (by decide +kernel) rfl (Nat.le_of_ble_eq_true rfl) (Nat.le_of_ble_eq_true rfl) (Nat.le_of_ble_eq_true rfl) dL_law_853 (by omega) (by omega) rfl (fun r0 s0 hr => ?_)
  obtain ⟨k, rfl, h⟩ := hr
  show Go K _ _ s0 856 [some (.ref b), some (.ref (xad (fX K) 14 0)), some (.ref (xad (fX K) 15 0)), some (.ref (xad (fX K) 17 0)), some (.ref (xad (fX K) 18 0)), some (.int iv), none, none, none] (.int k :: [])
  refine g_istore (np := 858) (lv' := [some (.ref b), some (.ref (xad (fX K) 14 0)), some (.ref (xad (fX K) 15 0)), some (.ref (xad (fX K) 17 0)), some (.ref (xad (fX K) 18 0)), some (.int iv), some (.int k), none, none]) B.1 dL_law_856 (by decide) rfl rfl rfl ?_
  refine g_aload_n (np := 859) B.1 dL_law_858 rfl rfl ?_
  refine g_aload_n (np := 860) B.1 dL_law_859 rfl rfl ?_
  refine g_iload (np := 862) B.1 dL_law_860 rfl rfl ?_
  refine g_iconst (v := 1) (np := 863) B.1 dL_law_862 (by decide) rfl ?_
  refine g_iadd (np := 864) B.1 dL_law_863 rfl ?_
  refine g_sld (np := 865) B h1 dL_law_864 rfl ?_
  rw [e1]
  refine g_callL (np := 868) B 15 (by decide) rfl rfl rfl (n := 1) (As := [.int a1]) (oX13_baleAt B.1.tr a1 _ _ _ h) b_1964 b_1961 b_1962 b_1963 b_85 (by decide +kernel) rfl (Nat.le_of_ble_eq_true rfl) (Nat.le_of_ble_eq_true rfl) (Nat.le_of_ble_eq_true rfl) dL_law_865 (by omega) (by omega) rfl (fun r1 s1 hr => ?_)
  obtain ⟨bb, rfl, h⟩ := hr
  show Go K _ _ s1 868 [some (.ref b), some (.ref (xad (fX K) 14 0)), some (.ref (xad (fX K) 15 0)), some (.ref (xad (fX K) 17 0)), some (.ref (xad (fX K) 18 0)), some (.int iv), some (.int k), none, none] (.int bb :: [])
  refine g_istore (np := 870) (lv' := [some (.ref b), some (.ref (xad (fX K) 14 0)), some (.ref (xad (fX K) 15 0)), some (.ref (xad (fX K) 17 0)), some (.ref (xad (fX K) 18 0)), some (.int iv), some (.int k), some (.int bb), none]) B.1 dL_law_868 (by decide) rfl rfl rfl ?_
  refine g_aload_n (np := 871) B.1 dL_law_870 rfl rfl ?_
  refine g_callL (np := 874) B 15 (by decide) rfl rfl rfl (n := 0) (As := []) (oX13_thrown B.1.tr  _ _ _ h) b_1814 b_1811 b_1812 b_1813 b_85 (by decide +kernel) rfl (Nat.le_of_ble_eq_true rfl) (Nat.le_of_ble_eq_true rfl) (Nat.le_of_ble_eq_true rfl) dL_law_871 (by omega) (by omega) rfl (fun r2 s2 hr => ?_)
  obtain ⟨t, rfl, h⟩ := hr
  show Go K _ _ s2 874 [some (.ref b), some (.ref (xad (fX K) 14 0)), some (.ref (xad (fX K) 15 0)), some (.ref (xad (fX K) 17 0)), some (.ref (xad (fX K) 18 0)), some (.int iv), some (.int k), some (.int bb), none] (.int t :: [])
  obtain ⟨hk, hv, h⟩ := h
  refine g_iload (np := 876) B.1 dL_law_874 rfl rfl ?_
  refine g_icmp_eq (np := 879) (tgt := 881) B.1 dL_law_876 (by decide) rfl (fun _ => ?_) (fun q => absurd hk q)
  refine g_iload (np := 883) B.1 dL_law_881 rfl rfl ?_
  have key : Go K (cells + 1) (slots + 6) s2 898 [some (.ref b), some (.ref (xad (fX K) 14 0)), some (.ref (xad (fX K) 15 0)), some (.ref (xad (fX K) 17 0)), some (.ref (xad (fX K) 18 0)), some (.int iv), some (.int k), some (.int bb), none] [] := by
    refine g_goto (tgt := 2684) B.1 dL_law_898 (by decide) ?_
    refine Go.lle [some (.ref b), some (.ref (xad (fX K) 14 0)), some (.ref (xad (fX K) 15 0)), some (.ref (xad (fX K) 17 0)), some (.ref (xad (fX K) 18 0)), some (.int iv), none, none, none] (by simp [lle]) ?_
    exact Go.widen (by omega) (by omega) (kk _ h)
  refine g_if_ne (np := 886) (tgt := 898) B.1 dL_law_883 (by decide) rfl (fun _ => Go.widen (by omega) (by omega) key) (fun q => ?_)
  replace hv := hv q
  refine g_aload_n (np := 887) B.1 dL_law_886 rfl rfl ?_
  refine g_iconst (v := 0) (np := 888) B.1 dL_law_887 (by decide) rfl ?_
  refine g_lald (np := 889) B.1 dL_law_888 rfl ?_
  refine g_iload (np := 891) B.1 dL_law_889 rfl rfl ?_
  refine g_i2l (np := 892) B.1 dL_law_891 rfl ?_
  rw [hv]
  refine g_lcmp (np := 893) B.1 dL_law_892 rfl ?_
  rw [lcmp_self]
  refine g_if_eq (np := 896) (tgt := 898) B.1 dL_law_893 (by decide) rfl (fun _ => Go.widen (by omega) (by omega) key) (fun q => absurd rfl q)
def wC_11 (a1 : Int32) (s_ : Mem) (Q : Mem → Prop) : Prop := wL_weight a1 s_ (fun (k : Int32) (s0 : Mem) => wX13_weight a1 s0 (fun (bb : Int32) (s1 : Mem) => wX13_thrown  s1 (fun (t : Int32) (s2 : Mem) => t = k ∧ (k = 0 → rdL s2 = bb.toInt64) ∧ Q s2) (fun _ _ => False)) (fun _ _ => False))
set_option maxRecDepth 20000 in
set_option maxHeartbeats 4000000 in
theorem oC_11 {K : Fr} {b L : Nat} {xs : Nat → Int32} (B : BL K b L xs) {cells slots : Nat} {iv : Int32} {a1 : Int32} (h1 : vp_in (iv + 1) L) (e1 : xs (iv + 1).toNatClampNeg = a1) {s_ : Mem} {Q : Mem → Prop} (h : wC_11 a1 s_ Q) (hc : cells + 32 ≤ 603072) (hs : slots + 9000 ≤ 7202922) (kk : ∀ σ, Q σ → Go K (cells + 32) (slots + 9000) σ 2684 [some (.ref b), some (.ref (xad (fX K) 14 0)), some (.ref (xad (fX K) 15 0)), some (.ref (xad (fX K) 17 0)), some (.ref (xad (fX K) 18 0)), some (.int iv), none, none, none] []) : Go K cells slots s_ 901 [some (.ref b), some (.ref (xad (fX K) 14 0)), some (.ref (xad (fX K) 15 0)), some (.ref (xad (fX K) 17 0)), some (.ref (xad (fX K) 18 0)), some (.int iv), none, none, none] [] := by
  unfold wC_11 at h
  refine g_aload_n (np := 902) B.1 dL_law_901 rfl rfl ?_
  refine g_aload_n (np := 903) B.1 dL_law_902 rfl rfl ?_
  refine g_iload (np := 905) B.1 dL_law_903 rfl rfl ?_
  refine g_iconst (v := 1) (np := 906) B.1 dL_law_905 (by decide) rfl ?_
  refine g_iadd (np := 907) B.1 dL_law_906 rfl ?_
  refine g_sld (np := 908) B h1 dL_law_907 rfl ?_
  rw [e1]
  refine g_aload_n (np := 909) B.1 dL_law_908 rfl rfl ?_
  refine g_callW (np := 912) B (n := 3) (As := [.ref (xad (fX K) 14 0), .int a1, .ref (xad (fX K) 17 0)]) (oL_weight B.1.tr a1 _ _ h) b_1366 b_1364 b_1365 b_69 (by decide +kernel) rfl (Nat.le_of_ble_eq_true rfl) (Nat.le_of_ble_eq_true rfl) (Nat.le_of_ble_eq_true rfl) dL_law_909 (by omega) (by omega) rfl (fun r0 s0 hr => ?_)
  obtain ⟨k, rfl, h⟩ := hr
  show Go K _ _ s0 912 [some (.ref b), some (.ref (xad (fX K) 14 0)), some (.ref (xad (fX K) 15 0)), some (.ref (xad (fX K) 17 0)), some (.ref (xad (fX K) 18 0)), some (.int iv), none, none, none] (.int k :: [])
  refine g_istore (np := 914) (lv' := [some (.ref b), some (.ref (xad (fX K) 14 0)), some (.ref (xad (fX K) 15 0)), some (.ref (xad (fX K) 17 0)), some (.ref (xad (fX K) 18 0)), some (.int iv), some (.int k), none, none]) B.1 dL_law_912 (by decide) rfl rfl rfl ?_
  refine g_aload_n (np := 915) B.1 dL_law_914 rfl rfl ?_
  refine g_aload_n (np := 916) B.1 dL_law_915 rfl rfl ?_
  refine g_iload (np := 918) B.1 dL_law_916 rfl rfl ?_
  refine g_iconst (v := 1) (np := 919) B.1 dL_law_918 (by decide) rfl ?_
  refine g_iadd (np := 920) B.1 dL_law_919 rfl ?_
  refine g_sld (np := 921) B h1 dL_law_920 rfl ?_
  rw [e1]
  refine g_callL (np := 924) B 15 (by decide) rfl rfl rfl (n := 1) (As := [.int a1]) (oX13_weight B.1.tr a1 _ _ _ h) b_1968 b_1965 b_1966 b_1967 b_85 (by decide +kernel) rfl (Nat.le_of_ble_eq_true rfl) (Nat.le_of_ble_eq_true rfl) (Nat.le_of_ble_eq_true rfl) dL_law_921 (by omega) (by omega) rfl (fun r1 s1 hr => ?_)
  obtain ⟨bb, rfl, h⟩ := hr
  show Go K _ _ s1 924 [some (.ref b), some (.ref (xad (fX K) 14 0)), some (.ref (xad (fX K) 15 0)), some (.ref (xad (fX K) 17 0)), some (.ref (xad (fX K) 18 0)), some (.int iv), some (.int k), none, none] (.int bb :: [])
  refine g_istore (np := 926) (lv' := [some (.ref b), some (.ref (xad (fX K) 14 0)), some (.ref (xad (fX K) 15 0)), some (.ref (xad (fX K) 17 0)), some (.ref (xad (fX K) 18 0)), some (.int iv), some (.int k), some (.int bb), none]) B.1 dL_law_924 (by decide) rfl rfl rfl ?_
  refine g_aload_n (np := 927) B.1 dL_law_926 rfl rfl ?_
  refine g_callL (np := 930) B 15 (by decide) rfl rfl rfl (n := 0) (As := []) (oX13_thrown B.1.tr  _ _ _ h) b_1814 b_1811 b_1812 b_1813 b_85 (by decide +kernel) rfl (Nat.le_of_ble_eq_true rfl) (Nat.le_of_ble_eq_true rfl) (Nat.le_of_ble_eq_true rfl) dL_law_927 (by omega) (by omega) rfl (fun r2 s2 hr => ?_)
  obtain ⟨t, rfl, h⟩ := hr
  show Go K _ _ s2 930 [some (.ref b), some (.ref (xad (fX K) 14 0)), some (.ref (xad (fX K) 15 0)), some (.ref (xad (fX K) 17 0)), some (.ref (xad (fX K) 18 0)), some (.int iv), some (.int k), some (.int bb), none] (.int t :: [])
  obtain ⟨hk, hv, h⟩ := h
  refine g_iload (np := 932) B.1 dL_law_930 rfl rfl ?_
  refine g_icmp_eq (np := 935) (tgt := 937) B.1 dL_law_932 (by decide) rfl (fun _ => ?_) (fun q => absurd hk q)
  refine g_iload (np := 939) B.1 dL_law_937 rfl rfl ?_
  have key : Go K (cells + 1) (slots + 6) s2 954 [some (.ref b), some (.ref (xad (fX K) 14 0)), some (.ref (xad (fX K) 15 0)), some (.ref (xad (fX K) 17 0)), some (.ref (xad (fX K) 18 0)), some (.int iv), some (.int k), some (.int bb), none] [] := by
    refine g_goto (tgt := 2684) B.1 dL_law_954 (by decide) ?_
    refine Go.lle [some (.ref b), some (.ref (xad (fX K) 14 0)), some (.ref (xad (fX K) 15 0)), some (.ref (xad (fX K) 17 0)), some (.ref (xad (fX K) 18 0)), some (.int iv), none, none, none] (by simp [lle]) ?_
    exact Go.widen (by omega) (by omega) (kk _ h)
  refine g_if_ne (np := 942) (tgt := 954) B.1 dL_law_939 (by decide) rfl (fun _ => Go.widen (by omega) (by omega) key) (fun q => ?_)
  replace hv := hv q
  refine g_aload_n (np := 943) B.1 dL_law_942 rfl rfl ?_
  refine g_iconst (v := 0) (np := 944) B.1 dL_law_943 (by decide) rfl ?_
  refine g_lald (np := 945) B.1 dL_law_944 rfl ?_
  refine g_iload (np := 947) B.1 dL_law_945 rfl rfl ?_
  refine g_i2l (np := 948) B.1 dL_law_947 rfl ?_
  rw [hv]
  refine g_lcmp (np := 949) B.1 dL_law_948 rfl ?_
  rw [lcmp_self]
  refine g_if_eq (np := 952) (tgt := 954) B.1 dL_law_949 (by decide) rfl (fun _ => Go.widen (by omega) (by omega) key) (fun q => absurd rfl q)
def wC_12 (a1 : Int32) (s_ : Mem) (Q : Mem → Prop) : Prop := wL_staple a1 s_ (fun (k : Int32) (s0 : Mem) => wX13_staple a1 s0 (fun (bb : Int32) (s1 : Mem) => wX13_thrown  s1 (fun (t : Int32) (s2 : Mem) => t = k ∧ (k = 0 → rdL s2 = bb.toInt64) ∧ Q s2) (fun _ _ => False)) (fun _ _ => False))
set_option maxRecDepth 20000 in
set_option maxHeartbeats 4000000 in
theorem oC_12 {K : Fr} {b L : Nat} {xs : Nat → Int32} (B : BL K b L xs) {cells slots : Nat} {iv : Int32} {a1 : Int32} (h1 : vp_in (iv + 1) L) (e1 : xs (iv + 1).toNatClampNeg = a1) {s_ : Mem} {Q : Mem → Prop} (h : wC_12 a1 s_ Q) (hc : cells + 32 ≤ 603072) (hs : slots + 9000 ≤ 7202922) (kk : ∀ σ, Q σ → Go K (cells + 32) (slots + 9000) σ 2684 [some (.ref b), some (.ref (xad (fX K) 14 0)), some (.ref (xad (fX K) 15 0)), some (.ref (xad (fX K) 17 0)), some (.ref (xad (fX K) 18 0)), some (.int iv), none, none, none] []) : Go K cells slots s_ 957 [some (.ref b), some (.ref (xad (fX K) 14 0)), some (.ref (xad (fX K) 15 0)), some (.ref (xad (fX K) 17 0)), some (.ref (xad (fX K) 18 0)), some (.int iv), none, none, none] [] := by
  unfold wC_12 at h
  refine g_aload_n (np := 958) B.1 dL_law_957 rfl rfl ?_
  refine g_aload_n (np := 959) B.1 dL_law_958 rfl rfl ?_
  refine g_iload (np := 961) B.1 dL_law_959 rfl rfl ?_
  refine g_iconst (v := 1) (np := 962) B.1 dL_law_961 (by decide) rfl ?_
  refine g_iadd (np := 963) B.1 dL_law_962 rfl ?_
  refine g_sld (np := 964) B h1 dL_law_963 rfl ?_
  rw [e1]
  refine g_aload_n (np := 965) B.1 dL_law_964 rfl rfl ?_
  refine g_callW (np := 968) B (n := 3) (As := [.ref (xad (fX K) 14 0), .int a1, .ref (xad (fX K) 17 0)]) (oL_staple B.1.tr a1 _ _ h) b_1378 b_1376 b_1377 b_69 (by decide +kernel) rfl (Nat.le_of_ble_eq_true rfl) (Nat.le_of_ble_eq_true rfl) (Nat.le_of_ble_eq_true rfl) dL_law_965 (by omega) (by omega) rfl (fun r0 s0 hr => ?_)
  obtain ⟨k, rfl, h⟩ := hr
  show Go K _ _ s0 968 [some (.ref b), some (.ref (xad (fX K) 14 0)), some (.ref (xad (fX K) 15 0)), some (.ref (xad (fX K) 17 0)), some (.ref (xad (fX K) 18 0)), some (.int iv), none, none, none] (.int k :: [])
  refine g_istore (np := 970) (lv' := [some (.ref b), some (.ref (xad (fX K) 14 0)), some (.ref (xad (fX K) 15 0)), some (.ref (xad (fX K) 17 0)), some (.ref (xad (fX K) 18 0)), some (.int iv), some (.int k), none, none]) B.1 dL_law_968 (by decide) rfl rfl rfl ?_
  refine g_aload_n (np := 971) B.1 dL_law_970 rfl rfl ?_
  refine g_aload_n (np := 972) B.1 dL_law_971 rfl rfl ?_
  refine g_iload (np := 974) B.1 dL_law_972 rfl rfl ?_
  refine g_iconst (v := 1) (np := 975) B.1 dL_law_974 (by decide) rfl ?_
  refine g_iadd (np := 976) B.1 dL_law_975 rfl ?_
  refine g_sld (np := 977) B h1 dL_law_976 rfl ?_
  rw [e1]
  refine g_callL (np := 980) B 15 (by decide) rfl rfl rfl (n := 1) (As := [.int a1]) (oX13_staple B.1.tr a1 _ _ _ h) b_1980 b_1977 b_1978 b_1979 b_85 (by decide +kernel) rfl (Nat.le_of_ble_eq_true rfl) (Nat.le_of_ble_eq_true rfl) (Nat.le_of_ble_eq_true rfl) dL_law_977 (by omega) (by omega) rfl (fun r1 s1 hr => ?_)
  obtain ⟨bb, rfl, h⟩ := hr
  show Go K _ _ s1 980 [some (.ref b), some (.ref (xad (fX K) 14 0)), some (.ref (xad (fX K) 15 0)), some (.ref (xad (fX K) 17 0)), some (.ref (xad (fX K) 18 0)), some (.int iv), some (.int k), none, none] (.int bb :: [])
  refine g_istore (np := 982) (lv' := [some (.ref b), some (.ref (xad (fX K) 14 0)), some (.ref (xad (fX K) 15 0)), some (.ref (xad (fX K) 17 0)), some (.ref (xad (fX K) 18 0)), some (.int iv), some (.int k), some (.int bb), none]) B.1 dL_law_980 (by decide) rfl rfl rfl ?_
  refine g_aload_n (np := 983) B.1 dL_law_982 rfl rfl ?_
  refine g_callL (np := 986) B 15 (by decide) rfl rfl rfl (n := 0) (As := []) (oX13_thrown B.1.tr  _ _ _ h) b_1814 b_1811 b_1812 b_1813 b_85 (by decide +kernel) rfl (Nat.le_of_ble_eq_true rfl) (Nat.le_of_ble_eq_true rfl) (Nat.le_of_ble_eq_true rfl) dL_law_983 (by omega) (by omega) rfl (fun r2 s2 hr => ?_)
  obtain ⟨t, rfl, h⟩ := hr
  show Go K _ _ s2 986 [some (.ref b), some (.ref (xad (fX K) 14 0)), some (.ref (xad (fX K) 15 0)), some (.ref (xad (fX K) 17 0)), some (.ref (xad (fX K) 18 0)), some (.int iv), some (.int k), some (.int bb), none] (.int t :: [])
  obtain ⟨hk, hv, h⟩ := h
  refine g_iload (np := 988) B.1 dL_law_986 rfl rfl ?_
  refine g_icmp_eq (np := 991) (tgt := 993) B.1 dL_law_988 (by decide) rfl (fun _ => ?_) (fun q => absurd hk q)
  refine g_iload (np := 995) B.1 dL_law_993 rfl rfl ?_
  have key : Go K (cells + 1) (slots + 6) s2 1010 [some (.ref b), some (.ref (xad (fX K) 14 0)), some (.ref (xad (fX K) 15 0)), some (.ref (xad (fX K) 17 0)), some (.ref (xad (fX K) 18 0)), some (.int iv), some (.int k), some (.int bb), none] [] := by
    refine g_goto (tgt := 2684) B.1 dL_law_1010 (by decide) ?_
    refine Go.lle [some (.ref b), some (.ref (xad (fX K) 14 0)), some (.ref (xad (fX K) 15 0)), some (.ref (xad (fX K) 17 0)), some (.ref (xad (fX K) 18 0)), some (.int iv), none, none, none] (by simp [lle]) ?_
    exact Go.widen (by omega) (by omega) (kk _ h)
  refine g_if_ne (np := 998) (tgt := 1010) B.1 dL_law_995 (by decide) rfl (fun _ => Go.widen (by omega) (by omega) key) (fun q => ?_)
  replace hv := hv q
  refine g_aload_n (np := 999) B.1 dL_law_998 rfl rfl ?_
  refine g_iconst (v := 0) (np := 1000) B.1 dL_law_999 (by decide) rfl ?_
  refine g_lald (np := 1001) B.1 dL_law_1000 rfl ?_
  refine g_iload (np := 1003) B.1 dL_law_1001 rfl rfl ?_
  refine g_i2l (np := 1004) B.1 dL_law_1003 rfl ?_
  rw [hv]
  refine g_lcmp (np := 1005) B.1 dL_law_1004 rfl ?_
  rw [lcmp_self]
  refine g_if_eq (np := 1008) (tgt := 1010) B.1 dL_law_1005 (by decide) rfl (fun _ => Go.widen (by omega) (by omega) key) (fun q => absurd rfl q)
def wC_13 (a1 : Int32) (s_ : Mem) (Q : Mem → Prop) : Prop := wL_price a1 s_ (fun (k : Int32) (s0 : Mem) => wX13_price a1 s0 (fun (bb : Int32) (s1 : Mem) => wX13_thrown  s1 (fun (t : Int32) (s2 : Mem) => t = k ∧ (k = 0 → rdL s2 = bb.toInt64) ∧ Q s2) (fun _ _ => False)) (fun _ _ => False))
set_option maxRecDepth 20000 in
set_option maxHeartbeats 4000000 in
theorem oC_13 {K : Fr} {b L : Nat} {xs : Nat → Int32} (B : BL K b L xs) {cells slots : Nat} {iv : Int32} {a1 : Int32} (h1 : vp_in (iv + 1) L) (e1 : xs (iv + 1).toNatClampNeg = a1) {s_ : Mem} {Q : Mem → Prop} (h : wC_13 a1 s_ Q) (hc : cells + 32 ≤ 603072) (hs : slots + 9000 ≤ 7202922) (kk : ∀ σ, Q σ → Go K (cells + 32) (slots + 9000) σ 2684 [some (.ref b), some (.ref (xad (fX K) 14 0)), some (.ref (xad (fX K) 15 0)), some (.ref (xad (fX K) 17 0)), some (.ref (xad (fX K) 18 0)), some (.int iv), none, none, none] []) : Go K cells slots s_ 1013 [some (.ref b), some (.ref (xad (fX K) 14 0)), some (.ref (xad (fX K) 15 0)), some (.ref (xad (fX K) 17 0)), some (.ref (xad (fX K) 18 0)), some (.int iv), none, none, none] [] := by
  unfold wC_13 at h
  refine g_aload_n (np := 1014) B.1 dL_law_1013 rfl rfl ?_
  refine g_aload_n (np := 1015) B.1 dL_law_1014 rfl rfl ?_
  refine g_iload (np := 1017) B.1 dL_law_1015 rfl rfl ?_
  refine g_iconst (v := 1) (np := 1018) B.1 dL_law_1017 (by decide) rfl ?_
  refine g_iadd (np := 1019) B.1 dL_law_1018 rfl ?_
  refine g_sld (np := 1020) B h1 dL_law_1019 rfl ?_
  rw [e1]
  refine g_aload_n (np := 1021) B.1 dL_law_1020 rfl rfl ?_
  refine g_callW (np := 1024) B (n := 3) (As := [.ref (xad (fX K) 14 0), .int a1, .ref (xad (fX K) 17 0)]) (oL_price B.1.tr a1 _ _ h) b_1385 b_1383 b_1384 b_69 (by decide +kernel) rfl (Nat.le_of_ble_eq_true rfl) (Nat.le_of_ble_eq_true rfl) (Nat.le_of_ble_eq_true rfl) dL_law_1021 (by omega) (by omega) rfl (fun r0 s0 hr => ?_)
  obtain ⟨k, rfl, h⟩ := hr
  show Go K _ _ s0 1024 [some (.ref b), some (.ref (xad (fX K) 14 0)), some (.ref (xad (fX K) 15 0)), some (.ref (xad (fX K) 17 0)), some (.ref (xad (fX K) 18 0)), some (.int iv), none, none, none] (.int k :: [])
  refine g_istore (np := 1026) (lv' := [some (.ref b), some (.ref (xad (fX K) 14 0)), some (.ref (xad (fX K) 15 0)), some (.ref (xad (fX K) 17 0)), some (.ref (xad (fX K) 18 0)), some (.int iv), some (.int k), none, none]) B.1 dL_law_1024 (by decide) rfl rfl rfl ?_
  refine g_aload_n (np := 1027) B.1 dL_law_1026 rfl rfl ?_
  refine g_aload_n (np := 1028) B.1 dL_law_1027 rfl rfl ?_
  refine g_iload (np := 1030) B.1 dL_law_1028 rfl rfl ?_
  refine g_iconst (v := 1) (np := 1031) B.1 dL_law_1030 (by decide) rfl ?_
  refine g_iadd (np := 1032) B.1 dL_law_1031 rfl ?_
  refine g_sld (np := 1033) B h1 dL_law_1032 rfl ?_
  rw [e1]
  refine g_callL (np := 1036) B 15 (by decide) rfl rfl rfl (n := 1) (As := [.int a1]) (oX13_price B.1.tr a1 _ _ _ h) b_1984 b_1981 b_1982 b_1983 b_85 (by decide +kernel) rfl (Nat.le_of_ble_eq_true rfl) (Nat.le_of_ble_eq_true rfl) (Nat.le_of_ble_eq_true rfl) dL_law_1033 (by omega) (by omega) rfl (fun r1 s1 hr => ?_)
  obtain ⟨bb, rfl, h⟩ := hr
  show Go K _ _ s1 1036 [some (.ref b), some (.ref (xad (fX K) 14 0)), some (.ref (xad (fX K) 15 0)), some (.ref (xad (fX K) 17 0)), some (.ref (xad (fX K) 18 0)), some (.int iv), some (.int k), none, none] (.int bb :: [])
  refine g_istore (np := 1038) (lv' := [some (.ref b), some (.ref (xad (fX K) 14 0)), some (.ref (xad (fX K) 15 0)), some (.ref (xad (fX K) 17 0)), some (.ref (xad (fX K) 18 0)), some (.int iv), some (.int k), some (.int bb), none]) B.1 dL_law_1036 (by decide) rfl rfl rfl ?_
  refine g_aload_n (np := 1039) B.1 dL_law_1038 rfl rfl ?_
  refine g_callL (np := 1042) B 15 (by decide) rfl rfl rfl (n := 0) (As := []) (oX13_thrown B.1.tr  _ _ _ h) b_1814 b_1811 b_1812 b_1813 b_85 (by decide +kernel) rfl (Nat.le_of_ble_eq_true rfl) (Nat.le_of_ble_eq_true rfl) (Nat.le_of_ble_eq_true rfl) dL_law_1039 (by omega) (by omega) rfl (fun r2 s2 hr => ?_)
  obtain ⟨t, rfl, h⟩ := hr
  show Go K _ _ s2 1042 [some (.ref b), some (.ref (xad (fX K) 14 0)), some (.ref (xad (fX K) 15 0)), some (.ref (xad (fX K) 17 0)), some (.ref (xad (fX K) 18 0)), some (.int iv), some (.int k), some (.int bb), none] (.int t :: [])
  obtain ⟨hk, hv, h⟩ := h
  refine g_iload (np := 1044) B.1 dL_law_1042 rfl rfl ?_
  refine g_icmp_eq (np := 1047) (tgt := 1049) B.1 dL_law_1044 (by decide) rfl (fun _ => ?_) (fun q => absurd hk q)
  refine g_iload (np := 1051) B.1 dL_law_1049 rfl rfl ?_
  have key : Go K (cells + 1) (slots + 6) s2 1066 [some (.ref b), some (.ref (xad (fX K) 14 0)), some (.ref (xad (fX K) 15 0)), some (.ref (xad (fX K) 17 0)), some (.ref (xad (fX K) 18 0)), some (.int iv), some (.int k), some (.int bb), none] [] := by
    refine g_goto (tgt := 2684) B.1 dL_law_1066 (by decide) ?_
    refine Go.lle [some (.ref b), some (.ref (xad (fX K) 14 0)), some (.ref (xad (fX K) 15 0)), some (.ref (xad (fX K) 17 0)), some (.ref (xad (fX K) 18 0)), some (.int iv), none, none, none] (by simp [lle]) ?_
    exact Go.widen (by omega) (by omega) (kk _ h)
  refine g_if_ne (np := 1054) (tgt := 1066) B.1 dL_law_1051 (by decide) rfl (fun _ => Go.widen (by omega) (by omega) key) (fun q => ?_)
  replace hv := hv q
  refine g_aload_n (np := 1055) B.1 dL_law_1054 rfl rfl ?_
  refine g_iconst (v := 0) (np := 1056) B.1 dL_law_1055 (by decide) rfl ?_
  refine g_lald (np := 1057) B.1 dL_law_1056 rfl ?_
  refine g_iload (np := 1059) B.1 dL_law_1057 rfl rfl ?_
  refine g_i2l (np := 1060) B.1 dL_law_1059 rfl ?_
  rw [hv]
  refine g_lcmp (np := 1061) B.1 dL_law_1060 rfl ?_
  rw [lcmp_self]
  refine g_if_eq (np := 1064) (tgt := 1066) B.1 dL_law_1061 (by decide) rfl (fun _ => Go.widen (by omega) (by omega) key) (fun q => absurd rfl q)
def wC_14 (a1 : Int32) (s_ : Mem) (Q : Mem → Prop) : Prop := wL_baleByValue a1 s_ (fun (k : Int32) (s0 : Mem) => wX13_baleByValue a1 s0 (fun (bb : Int32) (s1 : Mem) => wX13_thrown  s1 (fun (t : Int32) (s2 : Mem) => t = k ∧ (k = 0 → rdL s2 = bb.toInt64) ∧ Q s2) (fun _ _ => False)) (fun _ _ => False))
set_option maxRecDepth 20000 in
set_option maxHeartbeats 4000000 in
theorem oC_14 {K : Fr} {b L : Nat} {xs : Nat → Int32} (B : BL K b L xs) {cells slots : Nat} {iv : Int32} {a1 : Int32} (h1 : vp_in (iv + 1) L) (e1 : xs (iv + 1).toNatClampNeg = a1) {s_ : Mem} {Q : Mem → Prop} (h : wC_14 a1 s_ Q) (hc : cells + 32 ≤ 603072) (hs : slots + 9000 ≤ 7202922) (kk : ∀ σ, Q σ → Go K (cells + 32) (slots + 9000) σ 2684 [some (.ref b), some (.ref (xad (fX K) 14 0)), some (.ref (xad (fX K) 15 0)), some (.ref (xad (fX K) 17 0)), some (.ref (xad (fX K) 18 0)), some (.int iv), none, none, none] []) : Go K cells slots s_ 1069 [some (.ref b), some (.ref (xad (fX K) 14 0)), some (.ref (xad (fX K) 15 0)), some (.ref (xad (fX K) 17 0)), some (.ref (xad (fX K) 18 0)), some (.int iv), none, none, none] [] := by
  unfold wC_14 at h
  refine g_aload_n (np := 1070) B.1 dL_law_1069 rfl rfl ?_
  refine g_aload_n (np := 1071) B.1 dL_law_1070 rfl rfl ?_
  refine g_iload (np := 1073) B.1 dL_law_1071 rfl rfl ?_
  refine g_iconst (v := 1) (np := 1074) B.1 dL_law_1073 (by decide) rfl ?_
  refine g_iadd (np := 1075) B.1 dL_law_1074 rfl ?_
  refine g_sld (np := 1076) B h1 dL_law_1075 rfl ?_
  rw [e1]
  refine g_aload_n (np := 1077) B.1 dL_law_1076 rfl rfl ?_
  refine g_callW (np := 1080) B (n := 3) (As := [.ref (xad (fX K) 14 0), .int a1, .ref (xad (fX K) 17 0)]) (oL_baleByValue B.1.tr a1 _ _ h) b_1392 b_1390 b_1391 b_69 (by decide +kernel) rfl (Nat.le_of_ble_eq_true rfl) (Nat.le_of_ble_eq_true rfl) (Nat.le_of_ble_eq_true rfl) dL_law_1077 (by omega) (by omega) rfl (fun r0 s0 hr => ?_)
  obtain ⟨k, rfl, h⟩ := hr
  show Go K _ _ s0 1080 [some (.ref b), some (.ref (xad (fX K) 14 0)), some (.ref (xad (fX K) 15 0)), some (.ref (xad (fX K) 17 0)), some (.ref (xad (fX K) 18 0)), some (.int iv), none, none, none] (.int k :: [])
  refine g_istore (np := 1082) (lv' := [some (.ref b), some (.ref (xad (fX K) 14 0)), some (.ref (xad (fX K) 15 0)), some (.ref (xad (fX K) 17 0)), some (.ref (xad (fX K) 18 0)), some (.int iv), some (.int k), none, none]) B.1 dL_law_1080 (by decide) rfl rfl rfl ?_
  refine g_aload_n (np := 1083) B.1 dL_law_1082 rfl rfl ?_
  refine g_aload_n (np := 1084) B.1 dL_law_1083 rfl rfl ?_
  refine g_iload (np := 1086) B.1 dL_law_1084 rfl rfl ?_
  refine g_iconst (v := 1) (np := 1087) B.1 dL_law_1086 (by decide) rfl ?_
  refine g_iadd (np := 1088) B.1 dL_law_1087 rfl ?_
  refine g_sld (np := 1089) B h1 dL_law_1088 rfl ?_
  rw [e1]
  refine g_callL (np := 1092) B 15 (by decide) rfl rfl rfl (n := 1) (As := [.int a1]) (oX13_baleByValue B.1.tr a1 _ _ _ h) b_1988 b_1985 b_1986 b_1987 b_85 (by decide +kernel) rfl (Nat.le_of_ble_eq_true rfl) (Nat.le_of_ble_eq_true rfl) (Nat.le_of_ble_eq_true rfl) dL_law_1089 (by omega) (by omega) rfl (fun r1 s1 hr => ?_)
  obtain ⟨bb, rfl, h⟩ := hr
  show Go K _ _ s1 1092 [some (.ref b), some (.ref (xad (fX K) 14 0)), some (.ref (xad (fX K) 15 0)), some (.ref (xad (fX K) 17 0)), some (.ref (xad (fX K) 18 0)), some (.int iv), some (.int k), none, none] (.int bb :: [])
  refine g_istore (np := 1094) (lv' := [some (.ref b), some (.ref (xad (fX K) 14 0)), some (.ref (xad (fX K) 15 0)), some (.ref (xad (fX K) 17 0)), some (.ref (xad (fX K) 18 0)), some (.int iv), some (.int k), some (.int bb), none]) B.1 dL_law_1092 (by decide) rfl rfl rfl ?_
  refine g_aload_n (np := 1095) B.1 dL_law_1094 rfl rfl ?_
  refine g_callL (np := 1098) B 15 (by decide) rfl rfl rfl (n := 0) (As := []) (oX13_thrown B.1.tr  _ _ _ h) b_1814 b_1811 b_1812 b_1813 b_85 (by decide +kernel) rfl (Nat.le_of_ble_eq_true rfl) (Nat.le_of_ble_eq_true rfl) (Nat.le_of_ble_eq_true rfl) dL_law_1095 (by omega) (by omega) rfl (fun r2 s2 hr => ?_)
  obtain ⟨t, rfl, h⟩ := hr
  show Go K _ _ s2 1098 [some (.ref b), some (.ref (xad (fX K) 14 0)), some (.ref (xad (fX K) 15 0)), some (.ref (xad (fX K) 17 0)), some (.ref (xad (fX K) 18 0)), some (.int iv), some (.int k), some (.int bb), none] (.int t :: [])
  obtain ⟨hk, hv, h⟩ := h
  refine g_iload (np := 1100) B.1 dL_law_1098 rfl rfl ?_
  refine g_icmp_eq (np := 1103) (tgt := 1105) B.1 dL_law_1100 (by decide) rfl (fun _ => ?_) (fun q => absurd hk q)
  refine g_iload (np := 1107) B.1 dL_law_1105 rfl rfl ?_
  have key : Go K (cells + 1) (slots + 6) s2 1122 [some (.ref b), some (.ref (xad (fX K) 14 0)), some (.ref (xad (fX K) 15 0)), some (.ref (xad (fX K) 17 0)), some (.ref (xad (fX K) 18 0)), some (.int iv), some (.int k), some (.int bb), none] [] := by
    refine g_goto (tgt := 2684) B.1 dL_law_1122 (by decide) ?_
    refine Go.lle [some (.ref b), some (.ref (xad (fX K) 14 0)), some (.ref (xad (fX K) 15 0)), some (.ref (xad (fX K) 17 0)), some (.ref (xad (fX K) 18 0)), some (.int iv), none, none, none] (by simp [lle]) ?_
    exact Go.widen (by omega) (by omega) (kk _ h)
  refine g_if_ne (np := 1110) (tgt := 1122) B.1 dL_law_1107 (by decide) rfl (fun _ => Go.widen (by omega) (by omega) key) (fun q => ?_)
  replace hv := hv q
  refine g_aload_n (np := 1111) B.1 dL_law_1110 rfl rfl ?_
  refine g_iconst (v := 0) (np := 1112) B.1 dL_law_1111 (by decide) rfl ?_
  refine g_lald (np := 1113) B.1 dL_law_1112 rfl ?_
  refine g_iload (np := 1115) B.1 dL_law_1113 rfl rfl ?_
  refine g_i2l (np := 1116) B.1 dL_law_1115 rfl ?_
  rw [hv]
  refine g_lcmp (np := 1117) B.1 dL_law_1116 rfl ?_
  rw [lcmp_self]
  refine g_if_eq (np := 1120) (tgt := 1122) B.1 dL_law_1117 (by decide) rfl (fun _ => Go.widen (by omega) (by omega) key) (fun q => absurd rfl q)
def wC_15 (a1 : Int32) (a2 : Int32) (s_ : Mem) (Q : Mem → Prop) : Prop := wL_blendValue a1 a2 s_ (fun (k : Int32) (s0 : Mem) => wX13_blendValue a1 a2 s0 (fun (bb : Int32) (s1 : Mem) => wX13_thrown  s1 (fun (t : Int32) (s2 : Mem) => t = k ∧ (k = 0 → rdL s2 = bb.toInt64) ∧ Q s2) (fun _ _ => False)) (fun _ _ => False))
set_option maxRecDepth 20000 in
set_option maxHeartbeats 4000000 in
theorem oC_15 {K : Fr} {b L : Nat} {xs : Nat → Int32} (B : BL K b L xs) {cells slots : Nat} {iv : Int32} {a1 : Int32} {a2 : Int32} (h1 : vp_in (iv + 1) L) (e1 : xs (iv + 1).toNatClampNeg = a1) (h2 : vp_in (iv + 2) L) (e2 : xs (iv + 2).toNatClampNeg = a2) {s_ : Mem} {Q : Mem → Prop} (h : wC_15 a1 a2 s_ Q) (hc : cells + 32 ≤ 603072) (hs : slots + 9000 ≤ 7202922) (kk : ∀ σ, Q σ → Go K (cells + 32) (slots + 9000) σ 2684 [some (.ref b), some (.ref (xad (fX K) 14 0)), some (.ref (xad (fX K) 15 0)), some (.ref (xad (fX K) 17 0)), some (.ref (xad (fX K) 18 0)), some (.int iv), none, none, none] []) : Go K cells slots s_ 1125 [some (.ref b), some (.ref (xad (fX K) 14 0)), some (.ref (xad (fX K) 15 0)), some (.ref (xad (fX K) 17 0)), some (.ref (xad (fX K) 18 0)), some (.int iv), none, none, none] [] := by
  unfold wC_15 at h
  refine g_aload_n (np := 1126) B.1 dL_law_1125 rfl rfl ?_
  refine g_aload_n (np := 1127) B.1 dL_law_1126 rfl rfl ?_
  refine g_iload (np := 1129) B.1 dL_law_1127 rfl rfl ?_
  refine g_iconst (v := 1) (np := 1130) B.1 dL_law_1129 (by decide) rfl ?_
  refine g_iadd (np := 1131) B.1 dL_law_1130 rfl ?_
  refine g_sld (np := 1132) B h1 dL_law_1131 rfl ?_
  rw [e1]
  refine g_aload_n (np := 1133) B.1 dL_law_1132 rfl rfl ?_
  refine g_iload (np := 1135) B.1 dL_law_1133 rfl rfl ?_
  refine g_iconst (v := 2) (np := 1136) B.1 dL_law_1135 (by decide) rfl ?_
  refine g_iadd (np := 1137) B.1 dL_law_1136 rfl ?_
  refine g_sld (np := 1138) B h2 dL_law_1137 rfl ?_
  rw [e2]
  refine g_aload_n (np := 1139) B.1 dL_law_1138 rfl rfl ?_
  refine g_callW (np := 1142) B (n := 4) (As := [.ref (xad (fX K) 14 0), .int a1, .int a2, .ref (xad (fX K) 17 0)]) (oL_blendValue B.1.tr a1 a2 _ _ h) b_1417 b_1415 b_1416 b_69 (by decide +kernel) rfl (Nat.le_of_ble_eq_true rfl) (Nat.le_of_ble_eq_true rfl) (Nat.le_of_ble_eq_true rfl) dL_law_1139 (by omega) (by omega) rfl (fun r0 s0 hr => ?_)
  obtain ⟨k, rfl, h⟩ := hr
  show Go K _ _ s0 1142 [some (.ref b), some (.ref (xad (fX K) 14 0)), some (.ref (xad (fX K) 15 0)), some (.ref (xad (fX K) 17 0)), some (.ref (xad (fX K) 18 0)), some (.int iv), none, none, none] (.int k :: [])
  refine g_istore (np := 1144) (lv' := [some (.ref b), some (.ref (xad (fX K) 14 0)), some (.ref (xad (fX K) 15 0)), some (.ref (xad (fX K) 17 0)), some (.ref (xad (fX K) 18 0)), some (.int iv), some (.int k), none, none]) B.1 dL_law_1142 (by decide) rfl rfl rfl ?_
  refine g_aload_n (np := 1145) B.1 dL_law_1144 rfl rfl ?_
  refine g_aload_n (np := 1146) B.1 dL_law_1145 rfl rfl ?_
  refine g_iload (np := 1148) B.1 dL_law_1146 rfl rfl ?_
  refine g_iconst (v := 1) (np := 1149) B.1 dL_law_1148 (by decide) rfl ?_
  refine g_iadd (np := 1150) B.1 dL_law_1149 rfl ?_
  refine g_sld (np := 1151) B h1 dL_law_1150 rfl ?_
  rw [e1]
  refine g_aload_n (np := 1152) B.1 dL_law_1151 rfl rfl ?_
  refine g_iload (np := 1154) B.1 dL_law_1152 rfl rfl ?_
  refine g_iconst (v := 2) (np := 1155) B.1 dL_law_1154 (by decide) rfl ?_
  refine g_iadd (np := 1156) B.1 dL_law_1155 rfl ?_
  refine g_sld (np := 1157) B h2 dL_law_1156 rfl ?_
  rw [e2]
  refine g_callL (np := 1160) B 15 (by decide) rfl rfl rfl (n := 2) (As := [.int a1, .int a2]) (oX13_blendValue B.1.tr a1 a2 _ _ _ h) b_1996 b_1993 b_1994 b_1995 b_85 (by decide +kernel) rfl (Nat.le_of_ble_eq_true rfl) (Nat.le_of_ble_eq_true rfl) (Nat.le_of_ble_eq_true rfl) dL_law_1157 (by omega) (by omega) rfl (fun r1 s1 hr => ?_)
  obtain ⟨bb, rfl, h⟩ := hr
  show Go K _ _ s1 1160 [some (.ref b), some (.ref (xad (fX K) 14 0)), some (.ref (xad (fX K) 15 0)), some (.ref (xad (fX K) 17 0)), some (.ref (xad (fX K) 18 0)), some (.int iv), some (.int k), none, none] (.int bb :: [])
  refine g_istore (np := 1162) (lv' := [some (.ref b), some (.ref (xad (fX K) 14 0)), some (.ref (xad (fX K) 15 0)), some (.ref (xad (fX K) 17 0)), some (.ref (xad (fX K) 18 0)), some (.int iv), some (.int k), some (.int bb), none]) B.1 dL_law_1160 (by decide) rfl rfl rfl ?_
  refine g_aload_n (np := 1163) B.1 dL_law_1162 rfl rfl ?_
  refine g_callL (np := 1166) B 15 (by decide) rfl rfl rfl (n := 0) (As := []) (oX13_thrown B.1.tr  _ _ _ h) b_1814 b_1811 b_1812 b_1813 b_85 (by decide +kernel) rfl (Nat.le_of_ble_eq_true rfl) (Nat.le_of_ble_eq_true rfl) (Nat.le_of_ble_eq_true rfl) dL_law_1163 (by omega) (by omega) rfl (fun r2 s2 hr => ?_)
  obtain ⟨t, rfl, h⟩ := hr
  show Go K _ _ s2 1166 [some (.ref b), some (.ref (xad (fX K) 14 0)), some (.ref (xad (fX K) 15 0)), some (.ref (xad (fX K) 17 0)), some (.ref (xad (fX K) 18 0)), some (.int iv), some (.int k), some (.int bb), none] (.int t :: [])
  obtain ⟨hk, hv, h⟩ := h
  refine g_iload (np := 1168) B.1 dL_law_1166 rfl rfl ?_
  refine g_icmp_eq (np := 1171) (tgt := 1173) B.1 dL_law_1168 (by decide) rfl (fun _ => ?_) (fun q => absurd hk q)
  refine g_iload (np := 1175) B.1 dL_law_1173 rfl rfl ?_
  have key : Go K (cells + 2) (slots + 12) s2 1190 [some (.ref b), some (.ref (xad (fX K) 14 0)), some (.ref (xad (fX K) 15 0)), some (.ref (xad (fX K) 17 0)), some (.ref (xad (fX K) 18 0)), some (.int iv), some (.int k), some (.int bb), none] [] := by
    refine g_goto (tgt := 2684) B.1 dL_law_1190 (by decide) ?_
    refine Go.lle [some (.ref b), some (.ref (xad (fX K) 14 0)), some (.ref (xad (fX K) 15 0)), some (.ref (xad (fX K) 17 0)), some (.ref (xad (fX K) 18 0)), some (.int iv), none, none, none] (by simp [lle]) ?_
    exact Go.widen (by omega) (by omega) (kk _ h)
  refine g_if_ne (np := 1178) (tgt := 1190) B.1 dL_law_1175 (by decide) rfl (fun _ => Go.widen (by omega) (by omega) key) (fun q => ?_)
  replace hv := hv q
  refine g_aload_n (np := 1179) B.1 dL_law_1178 rfl rfl ?_
  refine g_iconst (v := 0) (np := 1180) B.1 dL_law_1179 (by decide) rfl ?_
  refine g_lald (np := 1181) B.1 dL_law_1180 rfl ?_
  refine g_iload (np := 1183) B.1 dL_law_1181 rfl rfl ?_
  refine g_i2l (np := 1184) B.1 dL_law_1183 rfl ?_
  rw [hv]
  refine g_lcmp (np := 1185) B.1 dL_law_1184 rfl ?_
  rw [lcmp_self]
  refine g_if_eq (np := 1188) (tgt := 1190) B.1 dL_law_1185 (by decide) rfl (fun _ => Go.widen (by omega) (by omega) key) (fun q => absurd rfl q)
def wC_16 (a1 : Int32) (a2 : Int32) (s_ : Mem) (Q : Mem → Prop) : Prop := wL_blendValueBySearch a1 a2 s_ (fun (k : Int32) (s0 : Mem) => wX13_blendValueBySearch a1 a2 s0 (fun (bb : Int32) (s1 : Mem) => wX13_thrown  s1 (fun (t : Int32) (s2 : Mem) => t = k ∧ (k = 0 → rdL s2 = bb.toInt64) ∧ Q s2) (fun _ _ => False)) (fun _ _ => False))
set_option maxRecDepth 20000 in
set_option maxHeartbeats 4000000 in
theorem oC_16 {K : Fr} {b L : Nat} {xs : Nat → Int32} (B : BL K b L xs) {cells slots : Nat} {iv : Int32} {a1 : Int32} {a2 : Int32} (h1 : vp_in (iv + 1) L) (e1 : xs (iv + 1).toNatClampNeg = a1) (h2 : vp_in (iv + 2) L) (e2 : xs (iv + 2).toNatClampNeg = a2) {s_ : Mem} {Q : Mem → Prop} (h : wC_16 a1 a2 s_ Q) (hc : cells + 32 ≤ 603072) (hs : slots + 9000 ≤ 7202922) (kk : ∀ σ, Q σ → Go K (cells + 32) (slots + 9000) σ 2684 [some (.ref b), some (.ref (xad (fX K) 14 0)), some (.ref (xad (fX K) 15 0)), some (.ref (xad (fX K) 17 0)), some (.ref (xad (fX K) 18 0)), some (.int iv), none, none, none] []) : Go K cells slots s_ 1193 [some (.ref b), some (.ref (xad (fX K) 14 0)), some (.ref (xad (fX K) 15 0)), some (.ref (xad (fX K) 17 0)), some (.ref (xad (fX K) 18 0)), some (.int iv), none, none, none] [] := by
  unfold wC_16 at h
  refine g_aload_n (np := 1194) B.1 dL_law_1193 rfl rfl ?_
  refine g_aload_n (np := 1195) B.1 dL_law_1194 rfl rfl ?_
  refine g_iload (np := 1197) B.1 dL_law_1195 rfl rfl ?_
  refine g_iconst (v := 1) (np := 1198) B.1 dL_law_1197 (by decide) rfl ?_
  refine g_iadd (np := 1199) B.1 dL_law_1198 rfl ?_
  refine g_sld (np := 1200) B h1 dL_law_1199 rfl ?_
  rw [e1]
  refine g_aload_n (np := 1201) B.1 dL_law_1200 rfl rfl ?_
  refine g_iload (np := 1203) B.1 dL_law_1201 rfl rfl ?_
  refine g_iconst (v := 2) (np := 1204) B.1 dL_law_1203 (by decide) rfl ?_
  refine g_iadd (np := 1205) B.1 dL_law_1204 rfl ?_
  refine g_sld (np := 1206) B h2 dL_law_1205 rfl ?_
  rw [e2]
  refine g_aload_n (np := 1207) B.1 dL_law_1206 rfl rfl ?_
  refine g_callW (np := 1210) B (n := 4) (As := [.ref (xad (fX K) 14 0), .int a1, .int a2, .ref (xad (fX K) 17 0)]) (oL_blendValueBySearch B.1.tr a1 a2 _ _ h) b_1432 b_1430 b_1431 b_69 (by decide +kernel) rfl (Nat.le_of_ble_eq_true rfl) (Nat.le_of_ble_eq_true rfl) (Nat.le_of_ble_eq_true rfl) dL_law_1207 (by omega) (by omega) rfl (fun r0 s0 hr => ?_)
  obtain ⟨k, rfl, h⟩ := hr
  show Go K _ _ s0 1210 [some (.ref b), some (.ref (xad (fX K) 14 0)), some (.ref (xad (fX K) 15 0)), some (.ref (xad (fX K) 17 0)), some (.ref (xad (fX K) 18 0)), some (.int iv), none, none, none] (.int k :: [])
  refine g_istore (np := 1212) (lv' := [some (.ref b), some (.ref (xad (fX K) 14 0)), some (.ref (xad (fX K) 15 0)), some (.ref (xad (fX K) 17 0)), some (.ref (xad (fX K) 18 0)), some (.int iv), some (.int k), none, none]) B.1 dL_law_1210 (by decide) rfl rfl rfl ?_
  refine g_aload_n (np := 1213) B.1 dL_law_1212 rfl rfl ?_
  refine g_aload_n (np := 1214) B.1 dL_law_1213 rfl rfl ?_
  refine g_iload (np := 1216) B.1 dL_law_1214 rfl rfl ?_
  refine g_iconst (v := 1) (np := 1217) B.1 dL_law_1216 (by decide) rfl ?_
  refine g_iadd (np := 1218) B.1 dL_law_1217 rfl ?_
  refine g_sld (np := 1219) B h1 dL_law_1218 rfl ?_
  rw [e1]
  refine g_aload_n (np := 1220) B.1 dL_law_1219 rfl rfl ?_
  refine g_iload (np := 1222) B.1 dL_law_1220 rfl rfl ?_
  refine g_iconst (v := 2) (np := 1223) B.1 dL_law_1222 (by decide) rfl ?_
  refine g_iadd (np := 1224) B.1 dL_law_1223 rfl ?_
  refine g_sld (np := 1225) B h2 dL_law_1224 rfl ?_
  rw [e2]
  refine g_callL (np := 1228) B 15 (by decide) rfl rfl rfl (n := 2) (As := [.int a1, .int a2]) (oX13_blendValueBySearch B.1.tr a1 a2 _ _ _ h) b_2000 b_1997 b_1998 b_1999 b_85 (by decide +kernel) rfl (Nat.le_of_ble_eq_true rfl) (Nat.le_of_ble_eq_true rfl) (Nat.le_of_ble_eq_true rfl) dL_law_1225 (by omega) (by omega) rfl (fun r1 s1 hr => ?_)
  obtain ⟨bb, rfl, h⟩ := hr
  show Go K _ _ s1 1228 [some (.ref b), some (.ref (xad (fX K) 14 0)), some (.ref (xad (fX K) 15 0)), some (.ref (xad (fX K) 17 0)), some (.ref (xad (fX K) 18 0)), some (.int iv), some (.int k), none, none] (.int bb :: [])
  refine g_istore (np := 1230) (lv' := [some (.ref b), some (.ref (xad (fX K) 14 0)), some (.ref (xad (fX K) 15 0)), some (.ref (xad (fX K) 17 0)), some (.ref (xad (fX K) 18 0)), some (.int iv), some (.int k), some (.int bb), none]) B.1 dL_law_1228 (by decide) rfl rfl rfl ?_
  refine g_aload_n (np := 1231) B.1 dL_law_1230 rfl rfl ?_
  refine g_callL (np := 1234) B 15 (by decide) rfl rfl rfl (n := 0) (As := []) (oX13_thrown B.1.tr  _ _ _ h) b_1814 b_1811 b_1812 b_1813 b_85 (by decide +kernel) rfl (Nat.le_of_ble_eq_true rfl) (Nat.le_of_ble_eq_true rfl) (Nat.le_of_ble_eq_true rfl) dL_law_1231 (by omega) (by omega) rfl (fun r2 s2 hr => ?_)
  obtain ⟨t, rfl, h⟩ := hr
  show Go K _ _ s2 1234 [some (.ref b), some (.ref (xad (fX K) 14 0)), some (.ref (xad (fX K) 15 0)), some (.ref (xad (fX K) 17 0)), some (.ref (xad (fX K) 18 0)), some (.int iv), some (.int k), some (.int bb), none] (.int t :: [])
  obtain ⟨hk, hv, h⟩ := h
  refine g_iload (np := 1236) B.1 dL_law_1234 rfl rfl ?_
  refine g_icmp_eq (np := 1239) (tgt := 1241) B.1 dL_law_1236 (by decide) rfl (fun _ => ?_) (fun q => absurd hk q)
  refine g_iload (np := 1243) B.1 dL_law_1241 rfl rfl ?_
  have key : Go K (cells + 2) (slots + 12) s2 1258 [some (.ref b), some (.ref (xad (fX K) 14 0)), some (.ref (xad (fX K) 15 0)), some (.ref (xad (fX K) 17 0)), some (.ref (xad (fX K) 18 0)), some (.int iv), some (.int k), some (.int bb), none] [] := by
    refine g_goto (tgt := 2684) B.1 dL_law_1258 (by decide) ?_
    refine Go.lle [some (.ref b), some (.ref (xad (fX K) 14 0)), some (.ref (xad (fX K) 15 0)), some (.ref (xad (fX K) 17 0)), some (.ref (xad (fX K) 18 0)), some (.int iv), none, none, none] (by simp [lle]) ?_
    exact Go.widen (by omega) (by omega) (kk _ h)
  refine g_if_ne (np := 1246) (tgt := 1258) B.1 dL_law_1243 (by decide) rfl (fun _ => Go.widen (by omega) (by omega) key) (fun q => ?_)
  replace hv := hv q
  refine g_aload_n (np := 1247) B.1 dL_law_1246 rfl rfl ?_
  refine g_iconst (v := 0) (np := 1248) B.1 dL_law_1247 (by decide) rfl ?_
  refine g_lald (np := 1249) B.1 dL_law_1248 rfl ?_
  refine g_iload (np := 1251) B.1 dL_law_1249 rfl rfl ?_
  refine g_i2l (np := 1252) B.1 dL_law_1251 rfl ?_
  rw [hv]
  refine g_lcmp (np := 1253) B.1 dL_law_1252 rfl ?_
  rw [lcmp_self]
  refine g_if_eq (np := 1256) (tgt := 1258) B.1 dL_law_1253 (by decide) rfl (fun _ => Go.widen (by omega) (by omega) key) (fun q => absurd rfl q)
def wC_17 (a1 : Int32) (a2 : Int32) (a3 : Int32) (s_ : Mem) (Q : Mem → Prop) : Prop := wL_isInBlend a1 a2 a3 s_ (fun (k : Int32) (s0 : Mem) => wX13_isInBlend a1 a2 a3 s0 (fun (bb : Int32) (s1 : Mem) => wX13_thrown  s1 (fun (t : Int32) (s2 : Mem) => t = k ∧ (k = 0 → ((bb = 0 → rdL s2 = 0) ∧ (¬ bb = 0 → rdL s2 = 1))) ∧ Q s2) (fun _ _ => False)) (fun _ _ => False))
set_option maxRecDepth 20000 in
set_option maxHeartbeats 4000000 in
theorem oC_17 {K : Fr} {b L : Nat} {xs : Nat → Int32} (B : BL K b L xs) {cells slots : Nat} {iv : Int32} {a1 : Int32} {a2 : Int32} {a3 : Int32} (h1 : vp_in (iv + 1) L) (e1 : xs (iv + 1).toNatClampNeg = a1) (h2 : vp_in (iv + 2) L) (e2 : xs (iv + 2).toNatClampNeg = a2) (h3 : vp_in (iv + 3) L) (e3 : xs (iv + 3).toNatClampNeg = a3) {s_ : Mem} {Q : Mem → Prop} (h : wC_17 a1 a2 a3 s_ Q) (hc : cells + 32 ≤ 603072) (hs : slots + 9000 ≤ 7202922) (kk : ∀ σ, Q σ → Go K (cells + 32) (slots + 9000) σ 2684 [some (.ref b), some (.ref (xad (fX K) 14 0)), some (.ref (xad (fX K) 15 0)), some (.ref (xad (fX K) 17 0)), some (.ref (xad (fX K) 18 0)), some (.int iv), none, none, none] []) : Go K cells slots s_ 1261 [some (.ref b), some (.ref (xad (fX K) 14 0)), some (.ref (xad (fX K) 15 0)), some (.ref (xad (fX K) 17 0)), some (.ref (xad (fX K) 18 0)), some (.int iv), none, none, none] [] := by
  unfold wC_17 at h
  refine g_aload_n (np := 1262) B.1 dL_law_1261 rfl rfl ?_
  refine g_aload_n (np := 1263) B.1 dL_law_1262 rfl rfl ?_
  refine g_iload (np := 1265) B.1 dL_law_1263 rfl rfl ?_
  refine g_iconst (v := 1) (np := 1266) B.1 dL_law_1265 (by decide) rfl ?_
  refine g_iadd (np := 1267) B.1 dL_law_1266 rfl ?_
  refine g_sld (np := 1268) B h1 dL_law_1267 rfl ?_
  rw [e1]
  refine g_aload_n (np := 1269) B.1 dL_law_1268 rfl rfl ?_
  refine g_iload (np := 1271) B.1 dL_law_1269 rfl rfl ?_
  refine g_iconst (v := 2) (np := 1272) B.1 dL_law_1271 (by decide) rfl ?_
  refine g_iadd (np := 1273) B.1 dL_law_1272 rfl ?_
  refine g_sld (np := 1274) B h2 dL_law_1273 rfl ?_
  rw [e2]
  refine g_aload_n (np := 1275) B.1 dL_law_1274 rfl rfl ?_
  refine g_iload (np := 1277) B.1 dL_law_1275 rfl rfl ?_
  refine g_iconst (v := 3) (np := 1278) B.1 dL_law_1277 (by decide) rfl ?_
  refine g_iadd (np := 1279) B.1 dL_law_1278 rfl ?_
  refine g_sld (np := 1280) B h3 dL_law_1279 rfl ?_
  rw [e3]
  refine g_aload_n (np := 1281) B.1 dL_law_1280 rfl rfl ?_
  refine g_callW (np := 1284) B (n := 5) (As := [.ref (xad (fX K) 14 0), .int a1, .int a2, .int a3, .ref (xad (fX K) 17 0)]) (oL_isInBlend B.1.tr a1 a2 a3 _ _ h) b_1439 b_1437 b_1438 b_69 (by decide +kernel) rfl (Nat.le_of_ble_eq_true rfl) (Nat.le_of_ble_eq_true rfl) (Nat.le_of_ble_eq_true rfl) dL_law_1281 (by omega) (by omega) rfl (fun r0 s0 hr => ?_)
  obtain ⟨k, rfl, h⟩ := hr
  show Go K _ _ s0 1284 [some (.ref b), some (.ref (xad (fX K) 14 0)), some (.ref (xad (fX K) 15 0)), some (.ref (xad (fX K) 17 0)), some (.ref (xad (fX K) 18 0)), some (.int iv), none, none, none] (.int k :: [])
  refine g_istore (np := 1286) (lv' := [some (.ref b), some (.ref (xad (fX K) 14 0)), some (.ref (xad (fX K) 15 0)), some (.ref (xad (fX K) 17 0)), some (.ref (xad (fX K) 18 0)), some (.int iv), some (.int k), none, none]) B.1 dL_law_1284 (by decide) rfl rfl rfl ?_
  refine g_aload_n (np := 1287) B.1 dL_law_1286 rfl rfl ?_
  refine g_aload_n (np := 1288) B.1 dL_law_1287 rfl rfl ?_
  refine g_iload (np := 1290) B.1 dL_law_1288 rfl rfl ?_
  refine g_iconst (v := 1) (np := 1291) B.1 dL_law_1290 (by decide) rfl ?_
  refine g_iadd (np := 1292) B.1 dL_law_1291 rfl ?_
  refine g_sld (np := 1293) B h1 dL_law_1292 rfl ?_
  rw [e1]
  refine g_aload_n (np := 1294) B.1 dL_law_1293 rfl rfl ?_
  refine g_iload (np := 1296) B.1 dL_law_1294 rfl rfl ?_
  refine g_iconst (v := 2) (np := 1297) B.1 dL_law_1296 (by decide) rfl ?_
  refine g_iadd (np := 1298) B.1 dL_law_1297 rfl ?_
  refine g_sld (np := 1299) B h2 dL_law_1298 rfl ?_
  rw [e2]
  refine g_aload_n (np := 1300) B.1 dL_law_1299 rfl rfl ?_
  refine g_iload (np := 1302) B.1 dL_law_1300 rfl rfl ?_
  refine g_iconst (v := 3) (np := 1303) B.1 dL_law_1302 (by decide) rfl ?_
  refine g_iadd (np := 1304) B.1 dL_law_1303 rfl ?_
  refine g_sld (np := 1305) B h3 dL_law_1304 rfl ?_
  rw [e3]
  refine g_callL (np := 1308) B 15 (by decide) rfl rfl rfl (n := 3) (As := [.int a1, .int a2, .int a3]) (oX13_isInBlend B.1.tr a1 a2 a3 _ _ _ h) b_2005 b_2002 b_2003 b_2004 b_85 (by decide +kernel) rfl (Nat.le_of_ble_eq_true rfl) (Nat.le_of_ble_eq_true rfl) (Nat.le_of_ble_eq_true rfl) dL_law_1305 (by omega) (by omega) rfl (fun r1 s1 hr => ?_)
  obtain ⟨bb, rfl, h⟩ := hr
  show Go K _ _ s1 1308 [some (.ref b), some (.ref (xad (fX K) 14 0)), some (.ref (xad (fX K) 15 0)), some (.ref (xad (fX K) 17 0)), some (.ref (xad (fX K) 18 0)), some (.int iv), some (.int k), none, none] (.int bb :: [])
  refine g_istore (np := 1310) (lv' := [some (.ref b), some (.ref (xad (fX K) 14 0)), some (.ref (xad (fX K) 15 0)), some (.ref (xad (fX K) 17 0)), some (.ref (xad (fX K) 18 0)), some (.int iv), some (.int k), some (.int bb), none]) B.1 dL_law_1308 (by decide) rfl rfl rfl ?_
  refine g_aload_n (np := 1311) B.1 dL_law_1310 rfl rfl ?_
  refine g_callL (np := 1314) B 15 (by decide) rfl rfl rfl (n := 0) (As := []) (oX13_thrown B.1.tr  _ _ _ h) b_1814 b_1811 b_1812 b_1813 b_85 (by decide +kernel) rfl (Nat.le_of_ble_eq_true rfl) (Nat.le_of_ble_eq_true rfl) (Nat.le_of_ble_eq_true rfl) dL_law_1311 (by omega) (by omega) rfl (fun r2 s2 hr => ?_)
  obtain ⟨t, rfl, h⟩ := hr
  show Go K _ _ s2 1314 [some (.ref b), some (.ref (xad (fX K) 14 0)), some (.ref (xad (fX K) 15 0)), some (.ref (xad (fX K) 17 0)), some (.ref (xad (fX K) 18 0)), some (.int iv), some (.int k), some (.int bb), none] (.int t :: [])
  obtain ⟨hk, hv, h⟩ := h
  refine g_iload (np := 1316) B.1 dL_law_1314 rfl rfl ?_
  refine g_icmp_eq (np := 1319) (tgt := 1321) B.1 dL_law_1316 (by decide) rfl (fun _ => ?_) (fun q => absurd hk q)
  refine g_iload (np := 1323) B.1 dL_law_1321 rfl rfl ?_
  have key : Go K (cells + 3) (slots + 18) s2 1345 [some (.ref b), some (.ref (xad (fX K) 14 0)), some (.ref (xad (fX K) 15 0)), some (.ref (xad (fX K) 17 0)), some (.ref (xad (fX K) 18 0)), some (.int iv), some (.int k), some (.int bb), none] [] := by
    refine g_goto (tgt := 2684) B.1 dL_law_1345 (by decide) ?_
    refine Go.lle [some (.ref b), some (.ref (xad (fX K) 14 0)), some (.ref (xad (fX K) 15 0)), some (.ref (xad (fX K) 17 0)), some (.ref (xad (fX K) 18 0)), some (.int iv), none, none, none] (by simp [lle]) ?_
    exact Go.widen (by omega) (by omega) (kk _ h)
  refine g_if_ne (np := 1326) (tgt := 1345) B.1 dL_law_1323 (by decide) rfl (fun _ => Go.widen (by omega) (by omega) key) (fun q => ?_)
  replace hv := hv q
  refine g_aload_n (np := 1327) B.1 dL_law_1326 rfl rfl ?_
  refine g_iconst (v := 0) (np := 1328) B.1 dL_law_1327 (by decide) rfl ?_
  refine g_lald (np := 1329) B.1 dL_law_1328 rfl ?_
  refine g_iload (np := 1331) B.1 dL_law_1329 rfl rfl ?_
  refine g_if_eq (np := 1334) (tgt := 1338) B.1 dL_law_1331 (by decide) rfl (fun q2 => ?_) (fun q2 => ?_)
  · rw [hv.1 q2]
    refine g_lconst (v := 0) (np := 1339) B.1 dL_law_1338 (by decide) rfl ?_
    refine g_lcmp (np := 1340) B.1 dL_law_1339 rfl ?_
    rw [lcmp_self]
    refine g_if_eq (np := 1343) (tgt := 1345) B.1 dL_law_1340 (by decide) rfl (fun _ => Go.widen (by omega) (by omega) key) (fun q => absurd rfl q)
  · rw [hv.2 q2]
    refine g_lconst (v := 1) (np := 1335) B.1 dL_law_1334 (by decide) rfl ?_
    refine g_goto (tgt := 1339) B.1 dL_law_1335 (by decide) ?_
    refine g_lcmp (np := 1340) B.1 dL_law_1339 rfl ?_
    rw [lcmp_self]
    refine g_if_eq (np := 1343) (tgt := 1345) B.1 dL_law_1340 (by decide) rfl (fun _ => Go.widen (by omega) (by omega) key) (fun q => absurd rfl q)
def wC_18 (s_ : Mem) (Q : Mem → Prop) : Prop := wX12_orderCount  s_ (fun (r1 : Int32) (s1 : Mem) => wX13_orderCount  s1 (fun (r2 : Int32) (s2 : Mem) => r1 = r2 ∧ Q s2) (fun _ _ => False)) (fun _ _ => False)
set_option maxRecDepth 20000 in
set_option maxHeartbeats 4000000 in
theorem oC_18 {K : Fr} {b L : Nat} {xs : Nat → Int32} (B : BL K b L xs) {cells slots : Nat} {iv : Int32} {s_ : Mem} {Q : Mem → Prop} (h : wC_18  s_ Q) (hc : cells + 32 ≤ 603072) (hs : slots + 9000 ≤ 7202922) (kk : ∀ σ, Q σ → Go K (cells + 32) (slots + 9000) σ 2684 [some (.ref b), some (.ref (xad (fX K) 14 0)), some (.ref (xad (fX K) 15 0)), some (.ref (xad (fX K) 17 0)), some (.ref (xad (fX K) 18 0)), some (.int iv), none, none, none] []) : Go K cells slots s_ 1348 [some (.ref b), some (.ref (xad (fX K) 14 0)), some (.ref (xad (fX K) 15 0)), some (.ref (xad (fX K) 17 0)), some (.ref (xad (fX K) 18 0)), some (.int iv), none, none, none] [] := by
  unfold wC_18 at h
  refine g_aload_n (np := 1349) B.1 dL_law_1348 rfl rfl ?_
  refine g_callL (np := 1352) B 14 (by decide) rfl rfl rfl (n := 0) (As := []) (oX12_orderCount B.1.tr  _ _ _ h) b_445 b_442 b_443 b_444 b_70 (by decide +kernel) rfl (Nat.le_of_ble_eq_true rfl) (Nat.le_of_ble_eq_true rfl) (Nat.le_of_ble_eq_true rfl) dL_law_1349 (by omega) (by omega) rfl (fun r1 s1 hr => ?_)
  obtain ⟨r1, rfl, h⟩ := hr
  show Go K _ _ s1 1352 [some (.ref b), some (.ref (xad (fX K) 14 0)), some (.ref (xad (fX K) 15 0)), some (.ref (xad (fX K) 17 0)), some (.ref (xad (fX K) 18 0)), some (.int iv), none, none, none] (.int r1 :: [])
  refine g_aload_n (np := 1353) B.1 dL_law_1352 rfl rfl ?_
  refine g_callL (np := 1356) B 15 (by decide) rfl rfl rfl (n := 0) (As := []) (oX13_orderCount B.1.tr  _ _ _ h) b_2009 b_2006 b_2007 b_2008 b_85 (by decide +kernel) rfl (Nat.le_of_ble_eq_true rfl) (Nat.le_of_ble_eq_true rfl) (Nat.le_of_ble_eq_true rfl) dL_law_1353 (by omega) (by omega) rfl (fun r2 s2 hr => ?_)
  obtain ⟨r2, rfl, h⟩ := hr
  show Go K _ _ s2 1356 [some (.ref b), some (.ref (xad (fX K) 14 0)), some (.ref (xad (fX K) 15 0)), some (.ref (xad (fX K) 17 0)), some (.ref (xad (fX K) 18 0)), some (.int iv), none, none, none] (.int r2 :: .int r1 :: [])
  obtain ⟨he, h⟩ := h
  refine g_icmp_eq (np := 1359) (tgt := 2684) B.1 dL_law_1356 (by decide) rfl (fun _ => ?_) (fun q => absurd he q)
  exact Go.widen (by omega) (by omega) (kk _ h)
def wC_19 (a1 : Int32) (s_ : Mem) (Q : Mem → Prop) : Prop := wL_orderAt a1 s_ (fun (k : Int32) (s0 : Mem) => wX13_orderAt a1 s0 (fun (bb : Int32) (s1 : Mem) => wX13_thrown  s1 (fun (t : Int32) (s2 : Mem) => t = k ∧ (k = 0 → rdL s2 = bb.toInt64) ∧ Q s2) (fun _ _ => False)) (fun _ _ => False))
set_option maxRecDepth 20000 in
set_option maxHeartbeats 4000000 in
theorem oC_19 {K : Fr} {b L : Nat} {xs : Nat → Int32} (B : BL K b L xs) {cells slots : Nat} {iv : Int32} {a1 : Int32} (h1 : vp_in (iv + 1) L) (e1 : xs (iv + 1).toNatClampNeg = a1) {s_ : Mem} {Q : Mem → Prop} (h : wC_19 a1 s_ Q) (hc : cells + 32 ≤ 603072) (hs : slots + 9000 ≤ 7202922) (kk : ∀ σ, Q σ → Go K (cells + 32) (slots + 9000) σ 2684 [some (.ref b), some (.ref (xad (fX K) 14 0)), some (.ref (xad (fX K) 15 0)), some (.ref (xad (fX K) 17 0)), some (.ref (xad (fX K) 18 0)), some (.int iv), none, none, none] []) : Go K cells slots s_ 1361 [some (.ref b), some (.ref (xad (fX K) 14 0)), some (.ref (xad (fX K) 15 0)), some (.ref (xad (fX K) 17 0)), some (.ref (xad (fX K) 18 0)), some (.int iv), none, none, none] [] := by
  unfold wC_19 at h
  refine g_aload_n (np := 1362) B.1 dL_law_1361 rfl rfl ?_
  refine g_aload_n (np := 1363) B.1 dL_law_1362 rfl rfl ?_
  refine g_iload (np := 1365) B.1 dL_law_1363 rfl rfl ?_
  refine g_iconst (v := 1) (np := 1366) B.1 dL_law_1365 (by decide) rfl ?_
  refine g_iadd (np := 1367) B.1 dL_law_1366 rfl ?_
  refine g_sld (np := 1368) B h1 dL_law_1367 rfl ?_
  rw [e1]
  refine g_aload_n (np := 1369) B.1 dL_law_1368 rfl rfl ?_
  refine g_callW (np := 1372) B (n := 3) (As := [.ref (xad (fX K) 14 0), .int a1, .ref (xad (fX K) 17 0)]) (oL_orderAt B.1.tr a1 _ _ h) b_1446 b_1444 b_1445 b_69 (by decide +kernel) rfl (Nat.le_of_ble_eq_true rfl) (Nat.le_of_ble_eq_true rfl) (Nat.le_of_ble_eq_true rfl) dL_law_1369 (by omega) (by omega) rfl (fun r0 s0 hr => ?_)
  obtain ⟨k, rfl, h⟩ := hr
  show Go K _ _ s0 1372 [some (.ref b), some (.ref (xad (fX K) 14 0)), some (.ref (xad (fX K) 15 0)), some (.ref (xad (fX K) 17 0)), some (.ref (xad (fX K) 18 0)), some (.int iv), none, none, none] (.int k :: [])
  refine g_istore (np := 1374) (lv' := [some (.ref b), some (.ref (xad (fX K) 14 0)), some (.ref (xad (fX K) 15 0)), some (.ref (xad (fX K) 17 0)), some (.ref (xad (fX K) 18 0)), some (.int iv), some (.int k), none, none]) B.1 dL_law_1372 (by decide) rfl rfl rfl ?_
  refine g_aload_n (np := 1375) B.1 dL_law_1374 rfl rfl ?_
  refine g_aload_n (np := 1376) B.1 dL_law_1375 rfl rfl ?_
  refine g_iload (np := 1378) B.1 dL_law_1376 rfl rfl ?_
  refine g_iconst (v := 1) (np := 1379) B.1 dL_law_1378 (by decide) rfl ?_
  refine g_iadd (np := 1380) B.1 dL_law_1379 rfl ?_
  refine g_sld (np := 1381) B h1 dL_law_1380 rfl ?_
  rw [e1]
  refine g_callL (np := 1384) B 15 (by decide) rfl rfl rfl (n := 1) (As := [.int a1]) (oX13_orderAt B.1.tr a1 _ _ _ h) b_2013 b_2010 b_2011 b_2012 b_85 (by decide +kernel) rfl (Nat.le_of_ble_eq_true rfl) (Nat.le_of_ble_eq_true rfl) (Nat.le_of_ble_eq_true rfl) dL_law_1381 (by omega) (by omega) rfl (fun r1 s1 hr => ?_)
  obtain ⟨bb, rfl, h⟩ := hr
  show Go K _ _ s1 1384 [some (.ref b), some (.ref (xad (fX K) 14 0)), some (.ref (xad (fX K) 15 0)), some (.ref (xad (fX K) 17 0)), some (.ref (xad (fX K) 18 0)), some (.int iv), some (.int k), none, none] (.int bb :: [])
  refine g_istore (np := 1386) (lv' := [some (.ref b), some (.ref (xad (fX K) 14 0)), some (.ref (xad (fX K) 15 0)), some (.ref (xad (fX K) 17 0)), some (.ref (xad (fX K) 18 0)), some (.int iv), some (.int k), some (.int bb), none]) B.1 dL_law_1384 (by decide) rfl rfl rfl ?_
  refine g_aload_n (np := 1387) B.1 dL_law_1386 rfl rfl ?_
  refine g_callL (np := 1390) B 15 (by decide) rfl rfl rfl (n := 0) (As := []) (oX13_thrown B.1.tr  _ _ _ h) b_1814 b_1811 b_1812 b_1813 b_85 (by decide +kernel) rfl (Nat.le_of_ble_eq_true rfl) (Nat.le_of_ble_eq_true rfl) (Nat.le_of_ble_eq_true rfl) dL_law_1387 (by omega) (by omega) rfl (fun r2 s2 hr => ?_)
  obtain ⟨t, rfl, h⟩ := hr
  show Go K _ _ s2 1390 [some (.ref b), some (.ref (xad (fX K) 14 0)), some (.ref (xad (fX K) 15 0)), some (.ref (xad (fX K) 17 0)), some (.ref (xad (fX K) 18 0)), some (.int iv), some (.int k), some (.int bb), none] (.int t :: [])
  obtain ⟨hk, hv, h⟩ := h
  refine g_iload (np := 1392) B.1 dL_law_1390 rfl rfl ?_
  refine g_icmp_eq (np := 1395) (tgt := 1397) B.1 dL_law_1392 (by decide) rfl (fun _ => ?_) (fun q => absurd hk q)
  refine g_iload (np := 1399) B.1 dL_law_1397 rfl rfl ?_
  have key : Go K (cells + 1) (slots + 6) s2 1414 [some (.ref b), some (.ref (xad (fX K) 14 0)), some (.ref (xad (fX K) 15 0)), some (.ref (xad (fX K) 17 0)), some (.ref (xad (fX K) 18 0)), some (.int iv), some (.int k), some (.int bb), none] [] := by
    refine g_goto (tgt := 2684) B.1 dL_law_1414 (by decide) ?_
    refine Go.lle [some (.ref b), some (.ref (xad (fX K) 14 0)), some (.ref (xad (fX K) 15 0)), some (.ref (xad (fX K) 17 0)), some (.ref (xad (fX K) 18 0)), some (.int iv), none, none, none] (by simp [lle]) ?_
    exact Go.widen (by omega) (by omega) (kk _ h)
  refine g_if_ne (np := 1402) (tgt := 1414) B.1 dL_law_1399 (by decide) rfl (fun _ => Go.widen (by omega) (by omega) key) (fun q => ?_)
  replace hv := hv q
  refine g_aload_n (np := 1403) B.1 dL_law_1402 rfl rfl ?_
  refine g_iconst (v := 0) (np := 1404) B.1 dL_law_1403 (by decide) rfl ?_
  refine g_lald (np := 1405) B.1 dL_law_1404 rfl ?_
  refine g_iload (np := 1407) B.1 dL_law_1405 rfl rfl ?_
  refine g_i2l (np := 1408) B.1 dL_law_1407 rfl ?_
  rw [hv]
  refine g_lcmp (np := 1409) B.1 dL_law_1408 rfl ?_
  rw [lcmp_self]
  refine g_if_eq (np := 1412) (tgt := 1414) B.1 dL_law_1409 (by decide) rfl (fun _ => Go.widen (by omega) (by omega) key) (fun q => absurd rfl q)
def wC_20 (a1 : Int32) (s_ : Mem) (Q : Mem → Prop) : Prop := wL_lengthOf a1 s_ (fun (k : Int32) (s0 : Mem) => wX13_lengthOf a1 s0 (fun (bb : Int32) (s1 : Mem) => wX13_thrown  s1 (fun (t : Int32) (s2 : Mem) => t = k ∧ (k = 0 → rdL s2 = bb.toInt64) ∧ Q s2) (fun _ _ => False)) (fun _ _ => False))
set_option maxRecDepth 20000 in
set_option maxHeartbeats 4000000 in
theorem oC_20 {K : Fr} {b L : Nat} {xs : Nat → Int32} (B : BL K b L xs) {cells slots : Nat} {iv : Int32} {a1 : Int32} (h1 : vp_in (iv + 1) L) (e1 : xs (iv + 1).toNatClampNeg = a1) {s_ : Mem} {Q : Mem → Prop} (h : wC_20 a1 s_ Q) (hc : cells + 32 ≤ 603072) (hs : slots + 9000 ≤ 7202922) (kk : ∀ σ, Q σ → Go K (cells + 32) (slots + 9000) σ 2684 [some (.ref b), some (.ref (xad (fX K) 14 0)), some (.ref (xad (fX K) 15 0)), some (.ref (xad (fX K) 17 0)), some (.ref (xad (fX K) 18 0)), some (.int iv), none, none, none] []) : Go K cells slots s_ 1417 [some (.ref b), some (.ref (xad (fX K) 14 0)), some (.ref (xad (fX K) 15 0)), some (.ref (xad (fX K) 17 0)), some (.ref (xad (fX K) 18 0)), some (.int iv), none, none, none] [] := by
  unfold wC_20 at h
  refine g_aload_n (np := 1418) B.1 dL_law_1417 rfl rfl ?_
  refine g_aload_n (np := 1419) B.1 dL_law_1418 rfl rfl ?_
  refine g_iload (np := 1421) B.1 dL_law_1419 rfl rfl ?_
  refine g_iconst (v := 1) (np := 1422) B.1 dL_law_1421 (by decide) rfl ?_
  refine g_iadd (np := 1423) B.1 dL_law_1422 rfl ?_
  refine g_sld (np := 1424) B h1 dL_law_1423 rfl ?_
  rw [e1]
  refine g_aload_n (np := 1425) B.1 dL_law_1424 rfl rfl ?_
  refine g_callW (np := 1428) B (n := 3) (As := [.ref (xad (fX K) 14 0), .int a1, .ref (xad (fX K) 17 0)]) (oL_lengthOf B.1.tr a1 _ _ h) b_1454 b_1452 b_1453 b_69 (by decide +kernel) rfl (Nat.le_of_ble_eq_true rfl) (Nat.le_of_ble_eq_true rfl) (Nat.le_of_ble_eq_true rfl) dL_law_1425 (by omega) (by omega) rfl (fun r0 s0 hr => ?_)
  obtain ⟨k, rfl, h⟩ := hr
  show Go K _ _ s0 1428 [some (.ref b), some (.ref (xad (fX K) 14 0)), some (.ref (xad (fX K) 15 0)), some (.ref (xad (fX K) 17 0)), some (.ref (xad (fX K) 18 0)), some (.int iv), none, none, none] (.int k :: [])
  refine g_istore (np := 1430) (lv' := [some (.ref b), some (.ref (xad (fX K) 14 0)), some (.ref (xad (fX K) 15 0)), some (.ref (xad (fX K) 17 0)), some (.ref (xad (fX K) 18 0)), some (.int iv), some (.int k), none, none]) B.1 dL_law_1428 (by decide) rfl rfl rfl ?_
  refine g_aload_n (np := 1431) B.1 dL_law_1430 rfl rfl ?_
  refine g_aload_n (np := 1432) B.1 dL_law_1431 rfl rfl ?_
  refine g_iload (np := 1434) B.1 dL_law_1432 rfl rfl ?_
  refine g_iconst (v := 1) (np := 1435) B.1 dL_law_1434 (by decide) rfl ?_
  refine g_iadd (np := 1436) B.1 dL_law_1435 rfl ?_
  refine g_sld (np := 1437) B h1 dL_law_1436 rfl ?_
  rw [e1]
  refine g_callL (np := 1440) B 15 (by decide) rfl rfl rfl (n := 1) (As := [.int a1]) (oX13_lengthOf B.1.tr a1 _ _ _ h) b_2017 b_2014 b_2015 b_2016 b_85 (by decide +kernel) rfl (Nat.le_of_ble_eq_true rfl) (Nat.le_of_ble_eq_true rfl) (Nat.le_of_ble_eq_true rfl) dL_law_1437 (by omega) (by omega) rfl (fun r1 s1 hr => ?_)
  obtain ⟨bb, rfl, h⟩ := hr
  show Go K _ _ s1 1440 [some (.ref b), some (.ref (xad (fX K) 14 0)), some (.ref (xad (fX K) 15 0)), some (.ref (xad (fX K) 17 0)), some (.ref (xad (fX K) 18 0)), some (.int iv), some (.int k), none, none] (.int bb :: [])
  refine g_istore (np := 1442) (lv' := [some (.ref b), some (.ref (xad (fX K) 14 0)), some (.ref (xad (fX K) 15 0)), some (.ref (xad (fX K) 17 0)), some (.ref (xad (fX K) 18 0)), some (.int iv), some (.int k), some (.int bb), none]) B.1 dL_law_1440 (by decide) rfl rfl rfl ?_
  refine g_aload_n (np := 1443) B.1 dL_law_1442 rfl rfl ?_
  refine g_callL (np := 1446) B 15 (by decide) rfl rfl rfl (n := 0) (As := []) (oX13_thrown B.1.tr  _ _ _ h) b_1814 b_1811 b_1812 b_1813 b_85 (by decide +kernel) rfl (Nat.le_of_ble_eq_true rfl) (Nat.le_of_ble_eq_true rfl) (Nat.le_of_ble_eq_true rfl) dL_law_1443 (by omega) (by omega) rfl (fun r2 s2 hr => ?_)
  obtain ⟨t, rfl, h⟩ := hr
  show Go K _ _ s2 1446 [some (.ref b), some (.ref (xad (fX K) 14 0)), some (.ref (xad (fX K) 15 0)), some (.ref (xad (fX K) 17 0)), some (.ref (xad (fX K) 18 0)), some (.int iv), some (.int k), some (.int bb), none] (.int t :: [])
  obtain ⟨hk, hv, h⟩ := h
  refine g_iload (np := 1448) B.1 dL_law_1446 rfl rfl ?_
  refine g_icmp_eq (np := 1451) (tgt := 1453) B.1 dL_law_1448 (by decide) rfl (fun _ => ?_) (fun q => absurd hk q)
  refine g_iload (np := 1455) B.1 dL_law_1453 rfl rfl ?_
  have key : Go K (cells + 1) (slots + 6) s2 1470 [some (.ref b), some (.ref (xad (fX K) 14 0)), some (.ref (xad (fX K) 15 0)), some (.ref (xad (fX K) 17 0)), some (.ref (xad (fX K) 18 0)), some (.int iv), some (.int k), some (.int bb), none] [] := by
    refine g_goto (tgt := 2684) B.1 dL_law_1470 (by decide) ?_
    refine Go.lle [some (.ref b), some (.ref (xad (fX K) 14 0)), some (.ref (xad (fX K) 15 0)), some (.ref (xad (fX K) 17 0)), some (.ref (xad (fX K) 18 0)), some (.int iv), none, none, none] (by simp [lle]) ?_
    exact Go.widen (by omega) (by omega) (kk _ h)
  refine g_if_ne (np := 1458) (tgt := 1470) B.1 dL_law_1455 (by decide) rfl (fun _ => Go.widen (by omega) (by omega) key) (fun q => ?_)
  replace hv := hv q
  refine g_aload_n (np := 1459) B.1 dL_law_1458 rfl rfl ?_
  refine g_iconst (v := 0) (np := 1460) B.1 dL_law_1459 (by decide) rfl ?_
  refine g_lald (np := 1461) B.1 dL_law_1460 rfl ?_
  refine g_iload (np := 1463) B.1 dL_law_1461 rfl rfl ?_
  refine g_i2l (np := 1464) B.1 dL_law_1463 rfl ?_
  rw [hv]
  refine g_lcmp (np := 1465) B.1 dL_law_1464 rfl ?_
  rw [lcmp_self]
  refine g_if_eq (np := 1468) (tgt := 1470) B.1 dL_law_1465 (by decide) rfl (fun _ => Go.widen (by omega) (by omega) key) (fun q => absurd rfl q)
def wC_21 (a1 : Int32) (s_ : Mem) (Q : Mem → Prop) : Prop := wL_twistOf a1 s_ (fun (k : Int32) (s0 : Mem) => wX13_twistOf a1 s0 (fun (bb : Int32) (s1 : Mem) => wX13_thrown  s1 (fun (t : Int32) (s2 : Mem) => t = k ∧ (k = 0 → rdL s2 = bb.toInt64) ∧ Q s2) (fun _ _ => False)) (fun _ _ => False))
set_option maxRecDepth 20000 in
set_option maxHeartbeats 4000000 in
theorem oC_21 {K : Fr} {b L : Nat} {xs : Nat → Int32} (B : BL K b L xs) {cells slots : Nat} {iv : Int32} {a1 : Int32} (h1 : vp_in (iv + 1) L) (e1 : xs (iv + 1).toNatClampNeg = a1) {s_ : Mem} {Q : Mem → Prop} (h : wC_21 a1 s_ Q) (hc : cells + 32 ≤ 603072) (hs : slots + 9000 ≤ 7202922) (kk : ∀ σ, Q σ → Go K (cells + 32) (slots + 9000) σ 2684 [some (.ref b), some (.ref (xad (fX K) 14 0)), some (.ref (xad (fX K) 15 0)), some (.ref (xad (fX K) 17 0)), some (.ref (xad (fX K) 18 0)), some (.int iv), none, none, none] []) : Go K cells slots s_ 1473 [some (.ref b), some (.ref (xad (fX K) 14 0)), some (.ref (xad (fX K) 15 0)), some (.ref (xad (fX K) 17 0)), some (.ref (xad (fX K) 18 0)), some (.int iv), none, none, none] [] := by
  unfold wC_21 at h
  refine g_aload_n (np := 1474) B.1 dL_law_1473 rfl rfl ?_
  refine g_aload_n (np := 1475) B.1 dL_law_1474 rfl rfl ?_
  refine g_iload (np := 1477) B.1 dL_law_1475 rfl rfl ?_
  refine g_iconst (v := 1) (np := 1478) B.1 dL_law_1477 (by decide) rfl ?_
  refine g_iadd (np := 1479) B.1 dL_law_1478 rfl ?_
  refine g_sld (np := 1480) B h1 dL_law_1479 rfl ?_
  rw [e1]
  refine g_aload_n (np := 1481) B.1 dL_law_1480 rfl rfl ?_
  refine g_callW (np := 1484) B (n := 3) (As := [.ref (xad (fX K) 14 0), .int a1, .ref (xad (fX K) 17 0)]) (oL_twistOf B.1.tr a1 _ _ h) b_1465 b_1463 b_1464 b_69 (by decide +kernel) rfl (Nat.le_of_ble_eq_true rfl) (Nat.le_of_ble_eq_true rfl) (Nat.le_of_ble_eq_true rfl) dL_law_1481 (by omega) (by omega) rfl (fun r0 s0 hr => ?_)
  obtain ⟨k, rfl, h⟩ := hr
  show Go K _ _ s0 1484 [some (.ref b), some (.ref (xad (fX K) 14 0)), some (.ref (xad (fX K) 15 0)), some (.ref (xad (fX K) 17 0)), some (.ref (xad (fX K) 18 0)), some (.int iv), none, none, none] (.int k :: [])
  refine g_istore (np := 1486) (lv' := [some (.ref b), some (.ref (xad (fX K) 14 0)), some (.ref (xad (fX K) 15 0)), some (.ref (xad (fX K) 17 0)), some (.ref (xad (fX K) 18 0)), some (.int iv), some (.int k), none, none]) B.1 dL_law_1484 (by decide) rfl rfl rfl ?_
  refine g_aload_n (np := 1487) B.1 dL_law_1486 rfl rfl ?_
  refine g_aload_n (np := 1488) B.1 dL_law_1487 rfl rfl ?_
  refine g_iload (np := 1490) B.1 dL_law_1488 rfl rfl ?_
  refine g_iconst (v := 1) (np := 1491) B.1 dL_law_1490 (by decide) rfl ?_
  refine g_iadd (np := 1492) B.1 dL_law_1491 rfl ?_
  refine g_sld (np := 1493) B h1 dL_law_1492 rfl ?_
  rw [e1]
  refine g_callL (np := 1496) B 15 (by decide) rfl rfl rfl (n := 1) (As := [.int a1]) (oX13_twistOf B.1.tr a1 _ _ _ h) b_2021 b_2018 b_2019 b_2020 b_85 (by decide +kernel) rfl (Nat.le_of_ble_eq_true rfl) (Nat.le_of_ble_eq_true rfl) (Nat.le_of_ble_eq_true rfl) dL_law_1493 (by omega) (by omega) rfl (fun r1 s1 hr => ?_)
  obtain ⟨bb, rfl, h⟩ := hr
  show Go K _ _ s1 1496 [some (.ref b), some (.ref (xad (fX K) 14 0)), some (.ref (xad (fX K) 15 0)), some (.ref (xad (fX K) 17 0)), some (.ref (xad (fX K) 18 0)), some (.int iv), some (.int k), none, none] (.int bb :: [])
  refine g_istore (np := 1498) (lv' := [some (.ref b), some (.ref (xad (fX K) 14 0)), some (.ref (xad (fX K) 15 0)), some (.ref (xad (fX K) 17 0)), some (.ref (xad (fX K) 18 0)), some (.int iv), some (.int k), some (.int bb), none]) B.1 dL_law_1496 (by decide) rfl rfl rfl ?_
  refine g_aload_n (np := 1499) B.1 dL_law_1498 rfl rfl ?_
  refine g_callL (np := 1502) B 15 (by decide) rfl rfl rfl (n := 0) (As := []) (oX13_thrown B.1.tr  _ _ _ h) b_1814 b_1811 b_1812 b_1813 b_85 (by decide +kernel) rfl (Nat.le_of_ble_eq_true rfl) (Nat.le_of_ble_eq_true rfl) (Nat.le_of_ble_eq_true rfl) dL_law_1499 (by omega) (by omega) rfl (fun r2 s2 hr => ?_)
  obtain ⟨t, rfl, h⟩ := hr
  show Go K _ _ s2 1502 [some (.ref b), some (.ref (xad (fX K) 14 0)), some (.ref (xad (fX K) 15 0)), some (.ref (xad (fX K) 17 0)), some (.ref (xad (fX K) 18 0)), some (.int iv), some (.int k), some (.int bb), none] (.int t :: [])
  obtain ⟨hk, hv, h⟩ := h
  refine g_iload (np := 1504) B.1 dL_law_1502 rfl rfl ?_
  refine g_icmp_eq (np := 1507) (tgt := 1509) B.1 dL_law_1504 (by decide) rfl (fun _ => ?_) (fun q => absurd hk q)
  refine g_iload (np := 1511) B.1 dL_law_1509 rfl rfl ?_
  have key : Go K (cells + 1) (slots + 6) s2 1526 [some (.ref b), some (.ref (xad (fX K) 14 0)), some (.ref (xad (fX K) 15 0)), some (.ref (xad (fX K) 17 0)), some (.ref (xad (fX K) 18 0)), some (.int iv), some (.int k), some (.int bb), none] [] := by
    refine g_goto (tgt := 2684) B.1 dL_law_1526 (by decide) ?_
    refine Go.lle [some (.ref b), some (.ref (xad (fX K) 14 0)), some (.ref (xad (fX K) 15 0)), some (.ref (xad (fX K) 17 0)), some (.ref (xad (fX K) 18 0)), some (.int iv), none, none, none] (by simp [lle]) ?_
    exact Go.widen (by omega) (by omega) (kk _ h)
  refine g_if_ne (np := 1514) (tgt := 1526) B.1 dL_law_1511 (by decide) rfl (fun _ => Go.widen (by omega) (by omega) key) (fun q => ?_)
  replace hv := hv q
  refine g_aload_n (np := 1515) B.1 dL_law_1514 rfl rfl ?_
  refine g_iconst (v := 0) (np := 1516) B.1 dL_law_1515 (by decide) rfl ?_
  refine g_lald (np := 1517) B.1 dL_law_1516 rfl ?_
  refine g_iload (np := 1519) B.1 dL_law_1517 rfl rfl ?_
  refine g_i2l (np := 1520) B.1 dL_law_1519 rfl ?_
  rw [hv]
  refine g_lcmp (np := 1521) B.1 dL_law_1520 rfl ?_
  rw [lcmp_self]
  refine g_if_eq (np := 1524) (tgt := 1526) B.1 dL_law_1521 (by decide) rfl (fun _ => Go.widen (by omega) (by omega) key) (fun q => absurd rfl q)
def wC_22 (a1 : Int32) (s_ : Mem) (Q : Mem → Prop) : Prop := wL_minutesOf a1 s_ (fun (k : Int32) (s0 : Mem) => wX13_minutesOf a1 s0 (fun (bb : Int32) (s1 : Mem) => wX13_thrown  s1 (fun (t : Int32) (s2 : Mem) => t = k ∧ (k = 0 → rdL s2 = bb.toInt64) ∧ Q s2) (fun _ _ => False)) (fun _ _ => False))
set_option maxRecDepth 20000 in
set_option maxHeartbeats 4000000 in
theorem oC_22 {K : Fr} {b L : Nat} {xs : Nat → Int32} (B : BL K b L xs) {cells slots : Nat} {iv : Int32} {a1 : Int32} (h1 : vp_in (iv + 1) L) (e1 : xs (iv + 1).toNatClampNeg = a1) {s_ : Mem} {Q : Mem → Prop} (h : wC_22 a1 s_ Q) (hc : cells + 32 ≤ 603072) (hs : slots + 9000 ≤ 7202922) (kk : ∀ σ, Q σ → Go K (cells + 32) (slots + 9000) σ 2684 [some (.ref b), some (.ref (xad (fX K) 14 0)), some (.ref (xad (fX K) 15 0)), some (.ref (xad (fX K) 17 0)), some (.ref (xad (fX K) 18 0)), some (.int iv), none, none, none] []) : Go K cells slots s_ 1529 [some (.ref b), some (.ref (xad (fX K) 14 0)), some (.ref (xad (fX K) 15 0)), some (.ref (xad (fX K) 17 0)), some (.ref (xad (fX K) 18 0)), some (.int iv), none, none, none] [] := by
  unfold wC_22 at h
  refine g_aload_n (np := 1530) B.1 dL_law_1529 rfl rfl ?_
  refine g_aload_n (np := 1531) B.1 dL_law_1530 rfl rfl ?_
  refine g_iload (np := 1533) B.1 dL_law_1531 rfl rfl ?_
  refine g_iconst (v := 1) (np := 1534) B.1 dL_law_1533 (by decide) rfl ?_
  refine g_iadd (np := 1535) B.1 dL_law_1534 rfl ?_
  refine g_sld (np := 1536) B h1 dL_law_1535 rfl ?_
  rw [e1]
  refine g_aload_n (np := 1537) B.1 dL_law_1536 rfl rfl ?_
  refine g_callW (np := 1540) B (n := 3) (As := [.ref (xad (fX K) 14 0), .int a1, .ref (xad (fX K) 17 0)]) (oL_minutesOf B.1.tr a1 _ _ h) b_1472 b_1470 b_1471 b_69 (by decide +kernel) rfl (Nat.le_of_ble_eq_true rfl) (Nat.le_of_ble_eq_true rfl) (Nat.le_of_ble_eq_true rfl) dL_law_1537 (by omega) (by omega) rfl (fun r0 s0 hr => ?_)
  obtain ⟨k, rfl, h⟩ := hr
  show Go K _ _ s0 1540 [some (.ref b), some (.ref (xad (fX K) 14 0)), some (.ref (xad (fX K) 15 0)), some (.ref (xad (fX K) 17 0)), some (.ref (xad (fX K) 18 0)), some (.int iv), none, none, none] (.int k :: [])
  refine g_istore (np := 1542) (lv' := [some (.ref b), some (.ref (xad (fX K) 14 0)), some (.ref (xad (fX K) 15 0)), some (.ref (xad (fX K) 17 0)), some (.ref (xad (fX K) 18 0)), some (.int iv), some (.int k), none, none]) B.1 dL_law_1540 (by decide) rfl rfl rfl ?_
  refine g_aload_n (np := 1543) B.1 dL_law_1542 rfl rfl ?_
  refine g_aload_n (np := 1544) B.1 dL_law_1543 rfl rfl ?_
  refine g_iload (np := 1546) B.1 dL_law_1544 rfl rfl ?_
  refine g_iconst (v := 1) (np := 1547) B.1 dL_law_1546 (by decide) rfl ?_
  refine g_iadd (np := 1548) B.1 dL_law_1547 rfl ?_
  refine g_sld (np := 1549) B h1 dL_law_1548 rfl ?_
  rw [e1]
  refine g_callL (np := 1552) B 15 (by decide) rfl rfl rfl (n := 1) (As := [.int a1]) (oX13_minutesOf B.1.tr a1 _ _ _ h) b_2025 b_2022 b_2023 b_2024 b_85 (by decide +kernel) rfl (Nat.le_of_ble_eq_true rfl) (Nat.le_of_ble_eq_true rfl) (Nat.le_of_ble_eq_true rfl) dL_law_1549 (by omega) (by omega) rfl (fun r1 s1 hr => ?_)
  obtain ⟨bb, rfl, h⟩ := hr
  show Go K _ _ s1 1552 [some (.ref b), some (.ref (xad (fX K) 14 0)), some (.ref (xad (fX K) 15 0)), some (.ref (xad (fX K) 17 0)), some (.ref (xad (fX K) 18 0)), some (.int iv), some (.int k), none, none] (.int bb :: [])
  refine g_istore (np := 1554) (lv' := [some (.ref b), some (.ref (xad (fX K) 14 0)), some (.ref (xad (fX K) 15 0)), some (.ref (xad (fX K) 17 0)), some (.ref (xad (fX K) 18 0)), some (.int iv), some (.int k), some (.int bb), none]) B.1 dL_law_1552 (by decide) rfl rfl rfl ?_
  refine g_aload_n (np := 1555) B.1 dL_law_1554 rfl rfl ?_
  refine g_callL (np := 1558) B 15 (by decide) rfl rfl rfl (n := 0) (As := []) (oX13_thrown B.1.tr  _ _ _ h) b_1814 b_1811 b_1812 b_1813 b_85 (by decide +kernel) rfl (Nat.le_of_ble_eq_true rfl) (Nat.le_of_ble_eq_true rfl) (Nat.le_of_ble_eq_true rfl) dL_law_1555 (by omega) (by omega) rfl (fun r2 s2 hr => ?_)
  obtain ⟨t, rfl, h⟩ := hr
  show Go K _ _ s2 1558 [some (.ref b), some (.ref (xad (fX K) 14 0)), some (.ref (xad (fX K) 15 0)), some (.ref (xad (fX K) 17 0)), some (.ref (xad (fX K) 18 0)), some (.int iv), some (.int k), some (.int bb), none] (.int t :: [])
  obtain ⟨hk, hv, h⟩ := h
  refine g_iload (np := 1560) B.1 dL_law_1558 rfl rfl ?_
  refine g_icmp_eq (np := 1563) (tgt := 1565) B.1 dL_law_1560 (by decide) rfl (fun _ => ?_) (fun q => absurd hk q)
  refine g_iload (np := 1567) B.1 dL_law_1565 rfl rfl ?_
  have key : Go K (cells + 1) (slots + 6) s2 1582 [some (.ref b), some (.ref (xad (fX K) 14 0)), some (.ref (xad (fX K) 15 0)), some (.ref (xad (fX K) 17 0)), some (.ref (xad (fX K) 18 0)), some (.int iv), some (.int k), some (.int bb), none] [] := by
    refine g_goto (tgt := 2684) B.1 dL_law_1582 (by decide) ?_
    refine Go.lle [some (.ref b), some (.ref (xad (fX K) 14 0)), some (.ref (xad (fX K) 15 0)), some (.ref (xad (fX K) 17 0)), some (.ref (xad (fX K) 18 0)), some (.int iv), none, none, none] (by simp [lle]) ?_
    exact Go.widen (by omega) (by omega) (kk _ h)
  refine g_if_ne (np := 1570) (tgt := 1582) B.1 dL_law_1567 (by decide) rfl (fun _ => Go.widen (by omega) (by omega) key) (fun q => ?_)
  replace hv := hv q
  refine g_aload_n (np := 1571) B.1 dL_law_1570 rfl rfl ?_
  refine g_iconst (v := 0) (np := 1572) B.1 dL_law_1571 (by decide) rfl ?_
  refine g_lald (np := 1573) B.1 dL_law_1572 rfl ?_
  refine g_iload (np := 1575) B.1 dL_law_1573 rfl rfl ?_
  refine g_i2l (np := 1576) B.1 dL_law_1575 rfl ?_
  rw [hv]
  refine g_lcmp (np := 1577) B.1 dL_law_1576 rfl ?_
  rw [lcmp_self]
  refine g_if_eq (np := 1580) (tgt := 1582) B.1 dL_law_1577 (by decide) rfl (fun _ => Go.widen (by omega) (by omega) key) (fun q => absurd rfl q)
def wC_23 (a1 : Int32) (s_ : Mem) (Q : Mem → Prop) : Prop := wL_canSpin a1 s_ (fun (k : Int32) (s0 : Mem) => wX13_canSpin a1 s0 (fun (bb : Int32) (s1 : Mem) => wX13_thrown  s1 (fun (t : Int32) (s2 : Mem) => t = k ∧ (k = 0 → ((bb = 0 → rdL s2 = 0) ∧ (¬ bb = 0 → rdL s2 = 1))) ∧ Q s2) (fun _ _ => False)) (fun _ _ => False))
set_option maxRecDepth 20000 in
set_option maxHeartbeats 4000000 in
theorem oC_23 {K : Fr} {b L : Nat} {xs : Nat → Int32} (B : BL K b L xs) {cells slots : Nat} {iv : Int32} {a1 : Int32} (h1 : vp_in (iv + 1) L) (e1 : xs (iv + 1).toNatClampNeg = a1) {s_ : Mem} {Q : Mem → Prop} (h : wC_23 a1 s_ Q) (hc : cells + 32 ≤ 603072) (hs : slots + 9000 ≤ 7202922) (kk : ∀ σ, Q σ → Go K (cells + 32) (slots + 9000) σ 2684 [some (.ref b), some (.ref (xad (fX K) 14 0)), some (.ref (xad (fX K) 15 0)), some (.ref (xad (fX K) 17 0)), some (.ref (xad (fX K) 18 0)), some (.int iv), none, none, none] []) : Go K cells slots s_ 1585 [some (.ref b), some (.ref (xad (fX K) 14 0)), some (.ref (xad (fX K) 15 0)), some (.ref (xad (fX K) 17 0)), some (.ref (xad (fX K) 18 0)), some (.int iv), none, none, none] [] := by
  unfold wC_23 at h
  refine g_aload_n (np := 1586) B.1 dL_law_1585 rfl rfl ?_
  refine g_aload_n (np := 1587) B.1 dL_law_1586 rfl rfl ?_
  refine g_iload (np := 1589) B.1 dL_law_1587 rfl rfl ?_
  refine g_iconst (v := 1) (np := 1590) B.1 dL_law_1589 (by decide) rfl ?_
  refine g_iadd (np := 1591) B.1 dL_law_1590 rfl ?_
  refine g_sld (np := 1592) B h1 dL_law_1591 rfl ?_
  rw [e1]
  refine g_aload_n (np := 1593) B.1 dL_law_1592 rfl rfl ?_
  refine g_callW (np := 1596) B (n := 3) (As := [.ref (xad (fX K) 14 0), .int a1, .ref (xad (fX K) 17 0)]) (oL_canSpin B.1.tr a1 _ _ h) b_1479 b_1477 b_1478 b_69 (by decide +kernel) rfl (Nat.le_of_ble_eq_true rfl) (Nat.le_of_ble_eq_true rfl) (Nat.le_of_ble_eq_true rfl) dL_law_1593 (by omega) (by omega) rfl (fun r0 s0 hr => ?_)
  obtain ⟨k, rfl, h⟩ := hr
  show Go K _ _ s0 1596 [some (.ref b), some (.ref (xad (fX K) 14 0)), some (.ref (xad (fX K) 15 0)), some (.ref (xad (fX K) 17 0)), some (.ref (xad (fX K) 18 0)), some (.int iv), none, none, none] (.int k :: [])
  refine g_istore (np := 1598) (lv' := [some (.ref b), some (.ref (xad (fX K) 14 0)), some (.ref (xad (fX K) 15 0)), some (.ref (xad (fX K) 17 0)), some (.ref (xad (fX K) 18 0)), some (.int iv), some (.int k), none, none]) B.1 dL_law_1596 (by decide) rfl rfl rfl ?_
  refine g_aload_n (np := 1599) B.1 dL_law_1598 rfl rfl ?_
  refine g_aload_n (np := 1600) B.1 dL_law_1599 rfl rfl ?_
  refine g_iload (np := 1602) B.1 dL_law_1600 rfl rfl ?_
  refine g_iconst (v := 1) (np := 1603) B.1 dL_law_1602 (by decide) rfl ?_
  refine g_iadd (np := 1604) B.1 dL_law_1603 rfl ?_
  refine g_sld (np := 1605) B h1 dL_law_1604 rfl ?_
  rw [e1]
  refine g_callL (np := 1608) B 15 (by decide) rfl rfl rfl (n := 1) (As := [.int a1]) (oX13_canSpin B.1.tr a1 _ _ _ h) b_2033 b_2030 b_2031 b_2032 b_85 (by decide +kernel) rfl (Nat.le_of_ble_eq_true rfl) (Nat.le_of_ble_eq_true rfl) (Nat.le_of_ble_eq_true rfl) dL_law_1605 (by omega) (by omega) rfl (fun r1 s1 hr => ?_)
  obtain ⟨bb, rfl, h⟩ := hr
  show Go K _ _ s1 1608 [some (.ref b), some (.ref (xad (fX K) 14 0)), some (.ref (xad (fX K) 15 0)), some (.ref (xad (fX K) 17 0)), some (.ref (xad (fX K) 18 0)), some (.int iv), some (.int k), none, none] (.int bb :: [])
  refine g_istore (np := 1610) (lv' := [some (.ref b), some (.ref (xad (fX K) 14 0)), some (.ref (xad (fX K) 15 0)), some (.ref (xad (fX K) 17 0)), some (.ref (xad (fX K) 18 0)), some (.int iv), some (.int k), some (.int bb), none]) B.1 dL_law_1608 (by decide) rfl rfl rfl ?_
  refine g_aload_n (np := 1611) B.1 dL_law_1610 rfl rfl ?_
  refine g_callL (np := 1614) B 15 (by decide) rfl rfl rfl (n := 0) (As := []) (oX13_thrown B.1.tr  _ _ _ h) b_1814 b_1811 b_1812 b_1813 b_85 (by decide +kernel) rfl (Nat.le_of_ble_eq_true rfl) (Nat.le_of_ble_eq_true rfl) (Nat.le_of_ble_eq_true rfl) dL_law_1611 (by omega) (by omega) rfl (fun r2 s2 hr => ?_)
  obtain ⟨t, rfl, h⟩ := hr
  show Go K _ _ s2 1614 [some (.ref b), some (.ref (xad (fX K) 14 0)), some (.ref (xad (fX K) 15 0)), some (.ref (xad (fX K) 17 0)), some (.ref (xad (fX K) 18 0)), some (.int iv), some (.int k), some (.int bb), none] (.int t :: [])
  obtain ⟨hk, hv, h⟩ := h
  refine g_iload (np := 1616) B.1 dL_law_1614 rfl rfl ?_
  refine g_icmp_eq (np := 1619) (tgt := 1621) B.1 dL_law_1616 (by decide) rfl (fun _ => ?_) (fun q => absurd hk q)
  refine g_iload (np := 1623) B.1 dL_law_1621 rfl rfl ?_
  have key : Go K (cells + 1) (slots + 6) s2 1645 [some (.ref b), some (.ref (xad (fX K) 14 0)), some (.ref (xad (fX K) 15 0)), some (.ref (xad (fX K) 17 0)), some (.ref (xad (fX K) 18 0)), some (.int iv), some (.int k), some (.int bb), none] [] := by
    refine g_goto (tgt := 2684) B.1 dL_law_1645 (by decide) ?_
    refine Go.lle [some (.ref b), some (.ref (xad (fX K) 14 0)), some (.ref (xad (fX K) 15 0)), some (.ref (xad (fX K) 17 0)), some (.ref (xad (fX K) 18 0)), some (.int iv), none, none, none] (by simp [lle]) ?_
    exact Go.widen (by omega) (by omega) (kk _ h)
  refine g_if_ne (np := 1626) (tgt := 1645) B.1 dL_law_1623 (by decide) rfl (fun _ => Go.widen (by omega) (by omega) key) (fun q => ?_)
  replace hv := hv q
  refine g_aload_n (np := 1627) B.1 dL_law_1626 rfl rfl ?_
  refine g_iconst (v := 0) (np := 1628) B.1 dL_law_1627 (by decide) rfl ?_
  refine g_lald (np := 1629) B.1 dL_law_1628 rfl ?_
  refine g_iload (np := 1631) B.1 dL_law_1629 rfl rfl ?_
  refine g_if_eq (np := 1634) (tgt := 1638) B.1 dL_law_1631 (by decide) rfl (fun q2 => ?_) (fun q2 => ?_)
  · rw [hv.1 q2]
    refine g_lconst (v := 0) (np := 1639) B.1 dL_law_1638 (by decide) rfl ?_
    refine g_lcmp (np := 1640) B.1 dL_law_1639 rfl ?_
    rw [lcmp_self]
    refine g_if_eq (np := 1643) (tgt := 1645) B.1 dL_law_1640 (by decide) rfl (fun _ => Go.widen (by omega) (by omega) key) (fun q => absurd rfl q)
  · rw [hv.2 q2]
    refine g_lconst (v := 1) (np := 1635) B.1 dL_law_1634 (by decide) rfl ?_
    refine g_goto (tgt := 1639) B.1 dL_law_1635 (by decide) ?_
    refine g_lcmp (np := 1640) B.1 dL_law_1639 rfl ?_
    rw [lcmp_self]
    refine g_if_eq (np := 1643) (tgt := 1645) B.1 dL_law_1640 (by decide) rfl (fun _ => Go.widen (by omega) (by omega) key) (fun q => absurd rfl q)
def wC_24 (s_ : Mem) (Q : Mem → Prop) : Prop := wX12_kinds  s_ (fun (r1 : Int32) (s1 : Mem) => wX13_kinds  s1 (fun (r2 : Int32) (s2 : Mem) => r1 = r2 ∧ Q s2) (fun _ _ => False)) (fun _ _ => False)
set_option maxRecDepth 20000 in
set_option maxHeartbeats 4000000 in
theorem oC_24 {K : Fr} {b L : Nat} {xs : Nat → Int32} (B : BL K b L xs) {cells slots : Nat} {iv : Int32} {s_ : Mem} {Q : Mem → Prop} (h : wC_24  s_ Q) (hc : cells + 32 ≤ 603072) (hs : slots + 9000 ≤ 7202922) (kk : ∀ σ, Q σ → Go K (cells + 32) (slots + 9000) σ 2684 [some (.ref b), some (.ref (xad (fX K) 14 0)), some (.ref (xad (fX K) 15 0)), some (.ref (xad (fX K) 17 0)), some (.ref (xad (fX K) 18 0)), some (.int iv), none, none, none] []) : Go K cells slots s_ 1648 [some (.ref b), some (.ref (xad (fX K) 14 0)), some (.ref (xad (fX K) 15 0)), some (.ref (xad (fX K) 17 0)), some (.ref (xad (fX K) 18 0)), some (.int iv), none, none, none] [] := by
  unfold wC_24 at h
  refine g_aload_n (np := 1649) B.1 dL_law_1648 rfl rfl ?_
  refine g_callL (np := 1652) B 14 (by decide) rfl rfl rfl (n := 0) (As := []) (oX12_kinds B.1.tr  _ _ _ h) b_449 b_446 b_447 b_448 b_70 (by decide +kernel) rfl (Nat.le_of_ble_eq_true rfl) (Nat.le_of_ble_eq_true rfl) (Nat.le_of_ble_eq_true rfl) dL_law_1649 (by omega) (by omega) rfl (fun r1 s1 hr => ?_)
  obtain ⟨r1, rfl, h⟩ := hr
  show Go K _ _ s1 1652 [some (.ref b), some (.ref (xad (fX K) 14 0)), some (.ref (xad (fX K) 15 0)), some (.ref (xad (fX K) 17 0)), some (.ref (xad (fX K) 18 0)), some (.int iv), none, none, none] (.int r1 :: [])
  refine g_aload_n (np := 1653) B.1 dL_law_1652 rfl rfl ?_
  refine g_callL (np := 1656) B 15 (by decide) rfl rfl rfl (n := 0) (As := []) (oX13_kinds B.1.tr  _ _ _ h) b_2041 b_2038 b_2039 b_2040 b_85 (by decide +kernel) rfl (Nat.le_of_ble_eq_true rfl) (Nat.le_of_ble_eq_true rfl) (Nat.le_of_ble_eq_true rfl) dL_law_1653 (by omega) (by omega) rfl (fun r2 s2 hr => ?_)
  obtain ⟨r2, rfl, h⟩ := hr
  show Go K _ _ s2 1656 [some (.ref b), some (.ref (xad (fX K) 14 0)), some (.ref (xad (fX K) 15 0)), some (.ref (xad (fX K) 17 0)), some (.ref (xad (fX K) 18 0)), some (.int iv), none, none, none] (.int r2 :: .int r1 :: [])
  obtain ⟨he, h⟩ := h
  refine g_icmp_eq (np := 1659) (tgt := 2684) B.1 dL_law_1656 (by decide) rfl (fun _ => ?_) (fun q => absurd he q)
  exact Go.widen (by omega) (by omega) (kk _ h)
def wC_25 (a1 : Int32) (s_ : Mem) (Q : Mem → Prop) : Prop := wL_orderByTime a1 s_ (fun (k : Int32) (s0 : Mem) => wX13_orderByTime a1 s0 (fun (bb : Int32) (s1 : Mem) => wX13_thrown  s1 (fun (t : Int32) (s2 : Mem) => t = k ∧ (k = 0 → rdL s2 = bb.toInt64) ∧ Q s2) (fun _ _ => False)) (fun _ _ => False))
set_option maxRecDepth 20000 in
set_option maxHeartbeats 4000000 in
theorem oC_25 {K : Fr} {b L : Nat} {xs : Nat → Int32} (B : BL K b L xs) {cells slots : Nat} {iv : Int32} {a1 : Int32} (h1 : vp_in (iv + 1) L) (e1 : xs (iv + 1).toNatClampNeg = a1) {s_ : Mem} {Q : Mem → Prop} (h : wC_25 a1 s_ Q) (hc : cells + 32 ≤ 603072) (hs : slots + 9000 ≤ 7202922) (kk : ∀ σ, Q σ → Go K (cells + 32) (slots + 9000) σ 2684 [some (.ref b), some (.ref (xad (fX K) 14 0)), some (.ref (xad (fX K) 15 0)), some (.ref (xad (fX K) 17 0)), some (.ref (xad (fX K) 18 0)), some (.int iv), none, none, none] []) : Go K cells slots s_ 1661 [some (.ref b), some (.ref (xad (fX K) 14 0)), some (.ref (xad (fX K) 15 0)), some (.ref (xad (fX K) 17 0)), some (.ref (xad (fX K) 18 0)), some (.int iv), none, none, none] [] := by
  unfold wC_25 at h
  refine g_aload_n (np := 1662) B.1 dL_law_1661 rfl rfl ?_
  refine g_aload_n (np := 1663) B.1 dL_law_1662 rfl rfl ?_
  refine g_iload (np := 1665) B.1 dL_law_1663 rfl rfl ?_
  refine g_iconst (v := 1) (np := 1666) B.1 dL_law_1665 (by decide) rfl ?_
  refine g_iadd (np := 1667) B.1 dL_law_1666 rfl ?_
  refine g_sld (np := 1668) B h1 dL_law_1667 rfl ?_
  rw [e1]
  refine g_aload_n (np := 1669) B.1 dL_law_1668 rfl rfl ?_
  refine g_callW (np := 1672) B (n := 3) (As := [.ref (xad (fX K) 14 0), .int a1, .ref (xad (fX K) 17 0)]) (oL_orderByTime B.1.tr a1 _ _ h) b_1486 b_1484 b_1485 b_69 (by decide +kernel) rfl (Nat.le_of_ble_eq_true rfl) (Nat.le_of_ble_eq_true rfl) (Nat.le_of_ble_eq_true rfl) dL_law_1669 (by omega) (by omega) rfl (fun r0 s0 hr => ?_)
  obtain ⟨k, rfl, h⟩ := hr
  show Go K _ _ s0 1672 [some (.ref b), some (.ref (xad (fX K) 14 0)), some (.ref (xad (fX K) 15 0)), some (.ref (xad (fX K) 17 0)), some (.ref (xad (fX K) 18 0)), some (.int iv), none, none, none] (.int k :: [])
  refine g_istore (np := 1674) (lv' := [some (.ref b), some (.ref (xad (fX K) 14 0)), some (.ref (xad (fX K) 15 0)), some (.ref (xad (fX K) 17 0)), some (.ref (xad (fX K) 18 0)), some (.int iv), some (.int k), none, none]) B.1 dL_law_1672 (by decide) rfl rfl rfl ?_
  refine g_aload_n (np := 1675) B.1 dL_law_1674 rfl rfl ?_
  refine g_aload_n (np := 1676) B.1 dL_law_1675 rfl rfl ?_
  refine g_iload (np := 1678) B.1 dL_law_1676 rfl rfl ?_
  refine g_iconst (v := 1) (np := 1679) B.1 dL_law_1678 (by decide) rfl ?_
  refine g_iadd (np := 1680) B.1 dL_law_1679 rfl ?_
  refine g_sld (np := 1681) B h1 dL_law_1680 rfl ?_
  rw [e1]
  refine g_callL (np := 1684) B 15 (by decide) rfl rfl rfl (n := 1) (As := [.int a1]) (oX13_orderByTime B.1.tr a1 _ _ _ h) b_2045 b_2042 b_2043 b_2044 b_85 (by decide +kernel) rfl (Nat.le_of_ble_eq_true rfl) (Nat.le_of_ble_eq_true rfl) (Nat.le_of_ble_eq_true rfl) dL_law_1681 (by omega) (by omega) rfl (fun r1 s1 hr => ?_)
  obtain ⟨bb, rfl, h⟩ := hr
  show Go K _ _ s1 1684 [some (.ref b), some (.ref (xad (fX K) 14 0)), some (.ref (xad (fX K) 15 0)), some (.ref (xad (fX K) 17 0)), some (.ref (xad (fX K) 18 0)), some (.int iv), some (.int k), none, none] (.int bb :: [])
  refine g_istore (np := 1686) (lv' := [some (.ref b), some (.ref (xad (fX K) 14 0)), some (.ref (xad (fX K) 15 0)), some (.ref (xad (fX K) 17 0)), some (.ref (xad (fX K) 18 0)), some (.int iv), some (.int k), some (.int bb), none]) B.1 dL_law_1684 (by decide) rfl rfl rfl ?_
  refine g_aload_n (np := 1687) B.1 dL_law_1686 rfl rfl ?_
  refine g_callL (np := 1690) B 15 (by decide) rfl rfl rfl (n := 0) (As := []) (oX13_thrown B.1.tr  _ _ _ h) b_1814 b_1811 b_1812 b_1813 b_85 (by decide +kernel) rfl (Nat.le_of_ble_eq_true rfl) (Nat.le_of_ble_eq_true rfl) (Nat.le_of_ble_eq_true rfl) dL_law_1687 (by omega) (by omega) rfl (fun r2 s2 hr => ?_)
  obtain ⟨t, rfl, h⟩ := hr
  show Go K _ _ s2 1690 [some (.ref b), some (.ref (xad (fX K) 14 0)), some (.ref (xad (fX K) 15 0)), some (.ref (xad (fX K) 17 0)), some (.ref (xad (fX K) 18 0)), some (.int iv), some (.int k), some (.int bb), none] (.int t :: [])
  obtain ⟨hk, hv, h⟩ := h
  refine g_iload (np := 1692) B.1 dL_law_1690 rfl rfl ?_
  refine g_icmp_eq (np := 1695) (tgt := 1697) B.1 dL_law_1692 (by decide) rfl (fun _ => ?_) (fun q => absurd hk q)
  refine g_iload (np := 1699) B.1 dL_law_1697 rfl rfl ?_
  have key : Go K (cells + 1) (slots + 6) s2 1714 [some (.ref b), some (.ref (xad (fX K) 14 0)), some (.ref (xad (fX K) 15 0)), some (.ref (xad (fX K) 17 0)), some (.ref (xad (fX K) 18 0)), some (.int iv), some (.int k), some (.int bb), none] [] := by
    refine g_goto (tgt := 2684) B.1 dL_law_1714 (by decide) ?_
    refine Go.lle [some (.ref b), some (.ref (xad (fX K) 14 0)), some (.ref (xad (fX K) 15 0)), some (.ref (xad (fX K) 17 0)), some (.ref (xad (fX K) 18 0)), some (.int iv), none, none, none] (by simp [lle]) ?_
    exact Go.widen (by omega) (by omega) (kk _ h)
  refine g_if_ne (np := 1702) (tgt := 1714) B.1 dL_law_1699 (by decide) rfl (fun _ => Go.widen (by omega) (by omega) key) (fun q => ?_)
  replace hv := hv q
  refine g_aload_n (np := 1703) B.1 dL_law_1702 rfl rfl ?_
  refine g_iconst (v := 0) (np := 1704) B.1 dL_law_1703 (by decide) rfl ?_
  refine g_lald (np := 1705) B.1 dL_law_1704 rfl ?_
  refine g_iload (np := 1707) B.1 dL_law_1705 rfl rfl ?_
  refine g_i2l (np := 1708) B.1 dL_law_1707 rfl ?_
  rw [hv]
  refine g_lcmp (np := 1709) B.1 dL_law_1708 rfl ?_
  rw [lcmp_self]
  refine g_if_eq (np := 1712) (tgt := 1714) B.1 dL_law_1709 (by decide) rfl (fun _ => Go.widen (by omega) (by omega) key) (fun q => absurd rfl q)
def wC_26 (s_ : Mem) (Q : Mem → Prop) : Prop := wX12_shortestTime  s_ (fun (r1 : Int32) (s1 : Mem) => wX13_shortestTime  s1 (fun (r2 : Int32) (s2 : Mem) => r1 = r2 ∧ Q s2) (fun _ _ => False)) (fun _ _ => False)
set_option maxRecDepth 20000 in
set_option maxHeartbeats 4000000 in
theorem oC_26 {K : Fr} {b L : Nat} {xs : Nat → Int32} (B : BL K b L xs) {cells slots : Nat} {iv : Int32} {s_ : Mem} {Q : Mem → Prop} (h : wC_26  s_ Q) (hc : cells + 32 ≤ 603072) (hs : slots + 9000 ≤ 7202922) (kk : ∀ σ, Q σ → Go K (cells + 32) (slots + 9000) σ 2684 [some (.ref b), some (.ref (xad (fX K) 14 0)), some (.ref (xad (fX K) 15 0)), some (.ref (xad (fX K) 17 0)), some (.ref (xad (fX K) 18 0)), some (.int iv), none, none, none] []) : Go K cells slots s_ 1717 [some (.ref b), some (.ref (xad (fX K) 14 0)), some (.ref (xad (fX K) 15 0)), some (.ref (xad (fX K) 17 0)), some (.ref (xad (fX K) 18 0)), some (.int iv), none, none, none] [] := by
  unfold wC_26 at h
  refine g_aload_n (np := 1718) B.1 dL_law_1717 rfl rfl ?_
  refine g_callL (np := 1721) B 14 (by decide) rfl rfl rfl (n := 0) (As := []) (oX12_shortestTime B.1.tr  _ _ _ h) b_466 b_463 b_464 b_465 b_70 (by decide +kernel) rfl (Nat.le_of_ble_eq_true rfl) (Nat.le_of_ble_eq_true rfl) (Nat.le_of_ble_eq_true rfl) dL_law_1718 (by omega) (by omega) rfl (fun r1 s1 hr => ?_)
  obtain ⟨r1, rfl, h⟩ := hr
  show Go K _ _ s1 1721 [some (.ref b), some (.ref (xad (fX K) 14 0)), some (.ref (xad (fX K) 15 0)), some (.ref (xad (fX K) 17 0)), some (.ref (xad (fX K) 18 0)), some (.int iv), none, none, none] (.int r1 :: [])
  refine g_aload_n (np := 1722) B.1 dL_law_1721 rfl rfl ?_
  refine g_callL (np := 1725) B 15 (by decide) rfl rfl rfl (n := 0) (As := []) (oX13_shortestTime B.1.tr  _ _ _ h) b_2049 b_2046 b_2047 b_2048 b_85 (by decide +kernel) rfl (Nat.le_of_ble_eq_true rfl) (Nat.le_of_ble_eq_true rfl) (Nat.le_of_ble_eq_true rfl) dL_law_1722 (by omega) (by omega) rfl (fun r2 s2 hr => ?_)
  obtain ⟨r2, rfl, h⟩ := hr
  show Go K _ _ s2 1725 [some (.ref b), some (.ref (xad (fX K) 14 0)), some (.ref (xad (fX K) 15 0)), some (.ref (xad (fX K) 17 0)), some (.ref (xad (fX K) 18 0)), some (.int iv), none, none, none] (.int r2 :: .int r1 :: [])
  obtain ⟨he, h⟩ := h
  refine g_icmp_eq (np := 1728) (tgt := 2684) B.1 dL_law_1725 (by decide) rfl (fun _ => ?_) (fun q => absurd he q)
  exact Go.widen (by omega) (by omega) (kk _ h)
def wC_27 (s_ : Mem) (Q : Mem → Prop) : Prop := wX12_shortestTimeBySearch  s_ (fun (r1 : Int32) (s1 : Mem) => wX13_shortestTimeBySearch  s1 (fun (r2 : Int32) (s2 : Mem) => r1 = r2 ∧ Q s2) (fun _ _ => False)) (fun _ _ => False)
set_option maxRecDepth 20000 in
set_option maxHeartbeats 4000000 in
theorem oC_27 {K : Fr} {b L : Nat} {xs : Nat → Int32} (B : BL K b L xs) {cells slots : Nat} {iv : Int32} {s_ : Mem} {Q : Mem → Prop} (h : wC_27  s_ Q) (hc : cells + 32 ≤ 603072) (hs : slots + 9000 ≤ 7202922) (kk : ∀ σ, Q σ → Go K (cells + 32) (slots + 9000) σ 2684 [some (.ref b), some (.ref (xad (fX K) 14 0)), some (.ref (xad (fX K) 15 0)), some (.ref (xad (fX K) 17 0)), some (.ref (xad (fX K) 18 0)), some (.int iv), none, none, none] []) : Go K cells slots s_ 1730 [some (.ref b), some (.ref (xad (fX K) 14 0)), some (.ref (xad (fX K) 15 0)), some (.ref (xad (fX K) 17 0)), some (.ref (xad (fX K) 18 0)), some (.int iv), none, none, none] [] := by
  unfold wC_27 at h
  refine g_aload_n (np := 1731) B.1 dL_law_1730 rfl rfl ?_
  refine g_callL (np := 1734) B 14 (by decide) rfl rfl rfl (n := 0) (As := []) (oX12_shortestTimeBySearch B.1.tr  _ _ _ h) b_488 b_485 b_486 b_487 b_70 (by decide +kernel) rfl (Nat.le_of_ble_eq_true rfl) (Nat.le_of_ble_eq_true rfl) (Nat.le_of_ble_eq_true rfl) dL_law_1731 (by omega) (by omega) rfl (fun r1 s1 hr => ?_)
  obtain ⟨r1, rfl, h⟩ := hr
  show Go K _ _ s1 1734 [some (.ref b), some (.ref (xad (fX K) 14 0)), some (.ref (xad (fX K) 15 0)), some (.ref (xad (fX K) 17 0)), some (.ref (xad (fX K) 18 0)), some (.int iv), none, none, none] (.int r1 :: [])
  refine g_aload_n (np := 1735) B.1 dL_law_1734 rfl rfl ?_
  refine g_callL (np := 1738) B 15 (by decide) rfl rfl rfl (n := 0) (As := []) (oX13_shortestTimeBySearch B.1.tr  _ _ _ h) b_2057 b_2054 b_2055 b_2056 b_85 (by decide +kernel) rfl (Nat.le_of_ble_eq_true rfl) (Nat.le_of_ble_eq_true rfl) (Nat.le_of_ble_eq_true rfl) dL_law_1735 (by omega) (by omega) rfl (fun r2 s2 hr => ?_)
  obtain ⟨r2, rfl, h⟩ := hr
  show Go K _ _ s2 1738 [some (.ref b), some (.ref (xad (fX K) 14 0)), some (.ref (xad (fX K) 15 0)), some (.ref (xad (fX K) 17 0)), some (.ref (xad (fX K) 18 0)), some (.int iv), none, none, none] (.int r2 :: .int r1 :: [])
  obtain ⟨he, h⟩ := h
  refine g_icmp_eq (np := 1741) (tgt := 2684) B.1 dL_law_1738 (by decide) rfl (fun _ => ?_) (fun q => absurd he q)
  exact Go.widen (by omega) (by omega) (kk _ h)
def wC_28 (s_ : Mem) (Q : Mem → Prop) : Prop := wX12_pieceCount  s_ (fun (r1 : Int32) (s1 : Mem) => wX13_pieceCount  s1 (fun (r2 : Int32) (s2 : Mem) => r1 = r2 ∧ Q s2) (fun _ _ => False)) (fun _ _ => False)
set_option maxRecDepth 20000 in
set_option maxHeartbeats 4000000 in
theorem oC_28 {K : Fr} {b L : Nat} {xs : Nat → Int32} (B : BL K b L xs) {cells slots : Nat} {iv : Int32} {s_ : Mem} {Q : Mem → Prop} (h : wC_28  s_ Q) (hc : cells + 32 ≤ 603072) (hs : slots + 9000 ≤ 7202922) (kk : ∀ σ, Q σ → Go K (cells + 32) (slots + 9000) σ 2684 [some (.ref b), some (.ref (xad (fX K) 14 0)), some (.ref (xad (fX K) 15 0)), some (.ref (xad (fX K) 17 0)), some (.ref (xad (fX K) 18 0)), some (.int iv), none, none, none] []) : Go K cells slots s_ 1743 [some (.ref b), some (.ref (xad (fX K) 14 0)), some (.ref (xad (fX K) 15 0)), some (.ref (xad (fX K) 17 0)), some (.ref (xad (fX K) 18 0)), some (.int iv), none, none, none] [] := by
  unfold wC_28 at h
  refine g_aload_n (np := 1744) B.1 dL_law_1743 rfl rfl ?_
  refine g_callL (np := 1747) B 14 (by decide) rfl rfl rfl (n := 0) (As := []) (oX12_pieceCount B.1.tr  _ _ _ h) b_512 b_509 b_510 b_511 b_70 (by decide +kernel) rfl (Nat.le_of_ble_eq_true rfl) (Nat.le_of_ble_eq_true rfl) (Nat.le_of_ble_eq_true rfl) dL_law_1744 (by omega) (by omega) rfl (fun r1 s1 hr => ?_)
  obtain ⟨r1, rfl, h⟩ := hr
  show Go K _ _ s1 1747 [some (.ref b), some (.ref (xad (fX K) 14 0)), some (.ref (xad (fX K) 15 0)), some (.ref (xad (fX K) 17 0)), some (.ref (xad (fX K) 18 0)), some (.int iv), none, none, none] (.int r1 :: [])
  refine g_aload_n (np := 1748) B.1 dL_law_1747 rfl rfl ?_
  refine g_callL (np := 1751) B 15 (by decide) rfl rfl rfl (n := 0) (As := []) (oX13_pieceCount B.1.tr  _ _ _ h) b_2062 b_2059 b_2060 b_2061 b_85 (by decide +kernel) rfl (Nat.le_of_ble_eq_true rfl) (Nat.le_of_ble_eq_true rfl) (Nat.le_of_ble_eq_true rfl) dL_law_1748 (by omega) (by omega) rfl (fun r2 s2 hr => ?_)
  obtain ⟨r2, rfl, h⟩ := hr
  show Go K _ _ s2 1751 [some (.ref b), some (.ref (xad (fX K) 14 0)), some (.ref (xad (fX K) 15 0)), some (.ref (xad (fX K) 17 0)), some (.ref (xad (fX K) 18 0)), some (.int iv), none, none, none] (.int r2 :: .int r1 :: [])
  obtain ⟨he, h⟩ := h
  refine g_icmp_eq (np := 1754) (tgt := 2684) B.1 dL_law_1751 (by decide) rfl (fun _ => ?_) (fun q => absurd he q)
  exact Go.widen (by omega) (by omega) (kk _ h)
def wC_29 (a1 : Int32) (s_ : Mem) (Q : Mem → Prop) : Prop := wL_pieceLength a1 s_ (fun (k : Int32) (s0 : Mem) => wX13_pieceLength a1 s0 (fun (bb : Int32) (s1 : Mem) => wX13_thrown  s1 (fun (t : Int32) (s2 : Mem) => t = k ∧ (k = 0 → rdL s2 = bb.toInt64) ∧ Q s2) (fun _ _ => False)) (fun _ _ => False))
set_option maxRecDepth 20000 in
set_option maxHeartbeats 4000000 in
theorem oC_29 {K : Fr} {b L : Nat} {xs : Nat → Int32} (B : BL K b L xs) {cells slots : Nat} {iv : Int32} {a1 : Int32} (h1 : vp_in (iv + 1) L) (e1 : xs (iv + 1).toNatClampNeg = a1) {s_ : Mem} {Q : Mem → Prop} (h : wC_29 a1 s_ Q) (hc : cells + 32 ≤ 603072) (hs : slots + 9000 ≤ 7202922) (kk : ∀ σ, Q σ → Go K (cells + 32) (slots + 9000) σ 2684 [some (.ref b), some (.ref (xad (fX K) 14 0)), some (.ref (xad (fX K) 15 0)), some (.ref (xad (fX K) 17 0)), some (.ref (xad (fX K) 18 0)), some (.int iv), none, none, none] []) : Go K cells slots s_ 1756 [some (.ref b), some (.ref (xad (fX K) 14 0)), some (.ref (xad (fX K) 15 0)), some (.ref (xad (fX K) 17 0)), some (.ref (xad (fX K) 18 0)), some (.int iv), none, none, none] [] := by
  unfold wC_29 at h
  refine g_aload_n (np := 1757) B.1 dL_law_1756 rfl rfl ?_
  refine g_aload_n (np := 1758) B.1 dL_law_1757 rfl rfl ?_
  refine g_iload (np := 1760) B.1 dL_law_1758 rfl rfl ?_
  refine g_iconst (v := 1) (np := 1761) B.1 dL_law_1760 (by decide) rfl ?_
  refine g_iadd (np := 1762) B.1 dL_law_1761 rfl ?_
  refine g_sld (np := 1763) B h1 dL_law_1762 rfl ?_
  rw [e1]
  refine g_aload_n (np := 1764) B.1 dL_law_1763 rfl rfl ?_
  refine g_callW (np := 1767) B (n := 3) (As := [.ref (xad (fX K) 14 0), .int a1, .ref (xad (fX K) 17 0)]) (oL_pieceLength B.1.tr a1 _ _ h) b_1498 b_1496 b_1497 b_69 (by decide +kernel) rfl (Nat.le_of_ble_eq_true rfl) (Nat.le_of_ble_eq_true rfl) (Nat.le_of_ble_eq_true rfl) dL_law_1764 (by omega) (by omega) rfl (fun r0 s0 hr => ?_)
  obtain ⟨k, rfl, h⟩ := hr
  show Go K _ _ s0 1767 [some (.ref b), some (.ref (xad (fX K) 14 0)), some (.ref (xad (fX K) 15 0)), some (.ref (xad (fX K) 17 0)), some (.ref (xad (fX K) 18 0)), some (.int iv), none, none, none] (.int k :: [])
  refine g_istore (np := 1769) (lv' := [some (.ref b), some (.ref (xad (fX K) 14 0)), some (.ref (xad (fX K) 15 0)), some (.ref (xad (fX K) 17 0)), some (.ref (xad (fX K) 18 0)), some (.int iv), some (.int k), none, none]) B.1 dL_law_1767 (by decide) rfl rfl rfl ?_
  refine g_aload_n (np := 1770) B.1 dL_law_1769 rfl rfl ?_
  refine g_aload_n (np := 1771) B.1 dL_law_1770 rfl rfl ?_
  refine g_iload (np := 1773) B.1 dL_law_1771 rfl rfl ?_
  refine g_iconst (v := 1) (np := 1774) B.1 dL_law_1773 (by decide) rfl ?_
  refine g_iadd (np := 1775) B.1 dL_law_1774 rfl ?_
  refine g_sld (np := 1776) B h1 dL_law_1775 rfl ?_
  rw [e1]
  refine g_callL (np := 1779) B 15 (by decide) rfl rfl rfl (n := 1) (As := [.int a1]) (oX13_pieceLength B.1.tr a1 _ _ _ h) b_2066 b_2063 b_2064 b_2065 b_85 (by decide +kernel) rfl (Nat.le_of_ble_eq_true rfl) (Nat.le_of_ble_eq_true rfl) (Nat.le_of_ble_eq_true rfl) dL_law_1776 (by omega) (by omega) rfl (fun r1 s1 hr => ?_)
  obtain ⟨bb, rfl, h⟩ := hr
  show Go K _ _ s1 1779 [some (.ref b), some (.ref (xad (fX K) 14 0)), some (.ref (xad (fX K) 15 0)), some (.ref (xad (fX K) 17 0)), some (.ref (xad (fX K) 18 0)), some (.int iv), some (.int k), none, none] (.int bb :: [])
  refine g_istore (np := 1781) (lv' := [some (.ref b), some (.ref (xad (fX K) 14 0)), some (.ref (xad (fX K) 15 0)), some (.ref (xad (fX K) 17 0)), some (.ref (xad (fX K) 18 0)), some (.int iv), some (.int k), some (.int bb), none]) B.1 dL_law_1779 (by decide) rfl rfl rfl ?_
  refine g_aload_n (np := 1782) B.1 dL_law_1781 rfl rfl ?_
  refine g_callL (np := 1785) B 15 (by decide) rfl rfl rfl (n := 0) (As := []) (oX13_thrown B.1.tr  _ _ _ h) b_1814 b_1811 b_1812 b_1813 b_85 (by decide +kernel) rfl (Nat.le_of_ble_eq_true rfl) (Nat.le_of_ble_eq_true rfl) (Nat.le_of_ble_eq_true rfl) dL_law_1782 (by omega) (by omega) rfl (fun r2 s2 hr => ?_)
  obtain ⟨t, rfl, h⟩ := hr
  show Go K _ _ s2 1785 [some (.ref b), some (.ref (xad (fX K) 14 0)), some (.ref (xad (fX K) 15 0)), some (.ref (xad (fX K) 17 0)), some (.ref (xad (fX K) 18 0)), some (.int iv), some (.int k), some (.int bb), none] (.int t :: [])
  obtain ⟨hk, hv, h⟩ := h
  refine g_iload (np := 1787) B.1 dL_law_1785 rfl rfl ?_
  refine g_icmp_eq (np := 1790) (tgt := 1792) B.1 dL_law_1787 (by decide) rfl (fun _ => ?_) (fun q => absurd hk q)
  refine g_iload (np := 1794) B.1 dL_law_1792 rfl rfl ?_
  have key : Go K (cells + 1) (slots + 6) s2 1809 [some (.ref b), some (.ref (xad (fX K) 14 0)), some (.ref (xad (fX K) 15 0)), some (.ref (xad (fX K) 17 0)), some (.ref (xad (fX K) 18 0)), some (.int iv), some (.int k), some (.int bb), none] [] := by
    refine g_goto (tgt := 2684) B.1 dL_law_1809 (by decide) ?_
    refine Go.lle [some (.ref b), some (.ref (xad (fX K) 14 0)), some (.ref (xad (fX K) 15 0)), some (.ref (xad (fX K) 17 0)), some (.ref (xad (fX K) 18 0)), some (.int iv), none, none, none] (by simp [lle]) ?_
    exact Go.widen (by omega) (by omega) (kk _ h)
  refine g_if_ne (np := 1797) (tgt := 1809) B.1 dL_law_1794 (by decide) rfl (fun _ => Go.widen (by omega) (by omega) key) (fun q => ?_)
  replace hv := hv q
  refine g_aload_n (np := 1798) B.1 dL_law_1797 rfl rfl ?_
  refine g_iconst (v := 0) (np := 1799) B.1 dL_law_1798 (by decide) rfl ?_
  refine g_lald (np := 1800) B.1 dL_law_1799 rfl ?_
  refine g_iload (np := 1802) B.1 dL_law_1800 rfl rfl ?_
  refine g_i2l (np := 1803) B.1 dL_law_1802 rfl ?_
  rw [hv]
  refine g_lcmp (np := 1804) B.1 dL_law_1803 rfl ?_
  rw [lcmp_self]
  refine g_if_eq (np := 1807) (tgt := 1809) B.1 dL_law_1804 (by decide) rfl (fun _ => Go.widen (by omega) (by omega) key) (fun q => absurd rfl q)
def wC_30 (s_ : Mem) (Q : Mem → Prop) : Prop := wL_longestPiece  s_ (fun (k : Int32) (s0 : Mem) => wX13_longestPiece  s0 (fun (bb : Int32) (s1 : Mem) => wX13_thrown  s1 (fun (t : Int32) (s2 : Mem) => t = k ∧ (k = 0 → rdL s2 = bb.toInt64) ∧ Q s2) (fun _ _ => False)) (fun _ _ => False))
set_option maxRecDepth 20000 in
set_option maxHeartbeats 4000000 in
theorem oC_30 {K : Fr} {b L : Nat} {xs : Nat → Int32} (B : BL K b L xs) {cells slots : Nat} {iv : Int32} {s_ : Mem} {Q : Mem → Prop} (h : wC_30  s_ Q) (hc : cells + 32 ≤ 603072) (hs : slots + 9000 ≤ 7202922) (kk : ∀ σ, Q σ → Go K (cells + 32) (slots + 9000) σ 2684 [some (.ref b), some (.ref (xad (fX K) 14 0)), some (.ref (xad (fX K) 15 0)), some (.ref (xad (fX K) 17 0)), some (.ref (xad (fX K) 18 0)), some (.int iv), none, none, none] []) : Go K cells slots s_ 1812 [some (.ref b), some (.ref (xad (fX K) 14 0)), some (.ref (xad (fX K) 15 0)), some (.ref (xad (fX K) 17 0)), some (.ref (xad (fX K) 18 0)), some (.int iv), none, none, none] [] := by
  unfold wC_30 at h
  refine g_aload_n (np := 1813) B.1 dL_law_1812 rfl rfl ?_
  refine g_aload_n (np := 1814) B.1 dL_law_1813 rfl rfl ?_
  refine g_callW (np := 1817) B (n := 2) (As := [.ref (xad (fX K) 14 0), .ref (xad (fX K) 17 0)]) (oL_longestPiece B.1.tr  _ _ h) b_1509 b_1507 b_1508 b_69 (by decide +kernel) rfl (Nat.le_of_ble_eq_true rfl) (Nat.le_of_ble_eq_true rfl) (Nat.le_of_ble_eq_true rfl) dL_law_1814 (by omega) (by omega) rfl (fun r0 s0 hr => ?_)
  obtain ⟨k, rfl, h⟩ := hr
  show Go K _ _ s0 1817 [some (.ref b), some (.ref (xad (fX K) 14 0)), some (.ref (xad (fX K) 15 0)), some (.ref (xad (fX K) 17 0)), some (.ref (xad (fX K) 18 0)), some (.int iv), none, none, none] (.int k :: [])
  refine g_istore (np := 1819) (lv' := [some (.ref b), some (.ref (xad (fX K) 14 0)), some (.ref (xad (fX K) 15 0)), some (.ref (xad (fX K) 17 0)), some (.ref (xad (fX K) 18 0)), some (.int iv), some (.int k), none, none]) B.1 dL_law_1817 (by decide) rfl rfl rfl ?_
  refine g_aload_n (np := 1820) B.1 dL_law_1819 rfl rfl ?_
  refine g_callL (np := 1823) B 15 (by decide) rfl rfl rfl (n := 0) (As := []) (oX13_longestPiece B.1.tr  _ _ _ h) b_2070 b_2067 b_2068 b_2069 b_85 (by decide +kernel) rfl (Nat.le_of_ble_eq_true rfl) (Nat.le_of_ble_eq_true rfl) (Nat.le_of_ble_eq_true rfl) dL_law_1820 (by omega) (by omega) rfl (fun r1 s1 hr => ?_)
  obtain ⟨bb, rfl, h⟩ := hr
  show Go K _ _ s1 1823 [some (.ref b), some (.ref (xad (fX K) 14 0)), some (.ref (xad (fX K) 15 0)), some (.ref (xad (fX K) 17 0)), some (.ref (xad (fX K) 18 0)), some (.int iv), some (.int k), none, none] (.int bb :: [])
  refine g_istore (np := 1825) (lv' := [some (.ref b), some (.ref (xad (fX K) 14 0)), some (.ref (xad (fX K) 15 0)), some (.ref (xad (fX K) 17 0)), some (.ref (xad (fX K) 18 0)), some (.int iv), some (.int k), some (.int bb), none]) B.1 dL_law_1823 (by decide) rfl rfl rfl ?_
  refine g_aload_n (np := 1826) B.1 dL_law_1825 rfl rfl ?_
  refine g_callL (np := 1829) B 15 (by decide) rfl rfl rfl (n := 0) (As := []) (oX13_thrown B.1.tr  _ _ _ h) b_1814 b_1811 b_1812 b_1813 b_85 (by decide +kernel) rfl (Nat.le_of_ble_eq_true rfl) (Nat.le_of_ble_eq_true rfl) (Nat.le_of_ble_eq_true rfl) dL_law_1826 (by omega) (by omega) rfl (fun r2 s2 hr => ?_)
  obtain ⟨t, rfl, h⟩ := hr
  show Go K _ _ s2 1829 [some (.ref b), some (.ref (xad (fX K) 14 0)), some (.ref (xad (fX K) 15 0)), some (.ref (xad (fX K) 17 0)), some (.ref (xad (fX K) 18 0)), some (.int iv), some (.int k), some (.int bb), none] (.int t :: [])
  obtain ⟨hk, hv, h⟩ := h
  refine g_iload (np := 1831) B.1 dL_law_1829 rfl rfl ?_
  refine g_icmp_eq (np := 1834) (tgt := 1836) B.1 dL_law_1831 (by decide) rfl (fun _ => ?_) (fun q => absurd hk q)
  refine g_iload (np := 1838) B.1 dL_law_1836 rfl rfl ?_
  have key : Go K (cells + 1) (slots + 6) s2 1853 [some (.ref b), some (.ref (xad (fX K) 14 0)), some (.ref (xad (fX K) 15 0)), some (.ref (xad (fX K) 17 0)), some (.ref (xad (fX K) 18 0)), some (.int iv), some (.int k), some (.int bb), none] [] := by
    refine g_goto (tgt := 2684) B.1 dL_law_1853 (by decide) ?_
    refine Go.lle [some (.ref b), some (.ref (xad (fX K) 14 0)), some (.ref (xad (fX K) 15 0)), some (.ref (xad (fX K) 17 0)), some (.ref (xad (fX K) 18 0)), some (.int iv), none, none, none] (by simp [lle]) ?_
    exact Go.widen (by omega) (by omega) (kk _ h)
  refine g_if_ne (np := 1841) (tgt := 1853) B.1 dL_law_1838 (by decide) rfl (fun _ => Go.widen (by omega) (by omega) key) (fun q => ?_)
  replace hv := hv q
  refine g_aload_n (np := 1842) B.1 dL_law_1841 rfl rfl ?_
  refine g_iconst (v := 0) (np := 1843) B.1 dL_law_1842 (by decide) rfl ?_
  refine g_lald (np := 1844) B.1 dL_law_1843 rfl ?_
  refine g_iload (np := 1846) B.1 dL_law_1844 rfl rfl ?_
  refine g_i2l (np := 1847) B.1 dL_law_1846 rfl ?_
  rw [hv]
  refine g_lcmp (np := 1848) B.1 dL_law_1847 rfl ?_
  rw [lcmp_self]
  refine g_if_eq (np := 1851) (tgt := 1853) B.1 dL_law_1848 (by decide) rfl (fun _ => Go.widen (by omega) (by omega) key) (fun q => absurd rfl q)
def wC_31 (a1 : Int32) (s_ : Mem) (Q : Mem → Prop) : Prop := wL_pieceByLength a1 s_ (fun (k : Int32) (s0 : Mem) => wX13_pieceByLength a1 s0 (fun (bb : Int32) (s1 : Mem) => wX13_thrown  s1 (fun (t : Int32) (s2 : Mem) => t = k ∧ (k = 0 → rdL s2 = bb.toInt64) ∧ Q s2) (fun _ _ => False)) (fun _ _ => False))
set_option maxRecDepth 20000 in
set_option maxHeartbeats 4000000 in
theorem oC_31 {K : Fr} {b L : Nat} {xs : Nat → Int32} (B : BL K b L xs) {cells slots : Nat} {iv : Int32} {a1 : Int32} (h1 : vp_in (iv + 1) L) (e1 : xs (iv + 1).toNatClampNeg = a1) {s_ : Mem} {Q : Mem → Prop} (h : wC_31 a1 s_ Q) (hc : cells + 32 ≤ 603072) (hs : slots + 9000 ≤ 7202922) (kk : ∀ σ, Q σ → Go K (cells + 32) (slots + 9000) σ 2684 [some (.ref b), some (.ref (xad (fX K) 14 0)), some (.ref (xad (fX K) 15 0)), some (.ref (xad (fX K) 17 0)), some (.ref (xad (fX K) 18 0)), some (.int iv), none, none, none] []) : Go K cells slots s_ 1856 [some (.ref b), some (.ref (xad (fX K) 14 0)), some (.ref (xad (fX K) 15 0)), some (.ref (xad (fX K) 17 0)), some (.ref (xad (fX K) 18 0)), some (.int iv), none, none, none] [] := by
  unfold wC_31 at h
  refine g_aload_n (np := 1857) B.1 dL_law_1856 rfl rfl ?_
  refine g_aload_n (np := 1858) B.1 dL_law_1857 rfl rfl ?_
  refine g_iload (np := 1860) B.1 dL_law_1858 rfl rfl ?_
  refine g_iconst (v := 1) (np := 1861) B.1 dL_law_1860 (by decide) rfl ?_
  refine g_iadd (np := 1862) B.1 dL_law_1861 rfl ?_
  refine g_sld (np := 1863) B h1 dL_law_1862 rfl ?_
  rw [e1]
  refine g_aload_n (np := 1864) B.1 dL_law_1863 rfl rfl ?_
  refine g_callW (np := 1867) B (n := 3) (As := [.ref (xad (fX K) 14 0), .int a1, .ref (xad (fX K) 17 0)]) (oL_pieceByLength B.1.tr a1 _ _ h) b_1521 b_1519 b_1520 b_69 (by decide +kernel) rfl (Nat.le_of_ble_eq_true rfl) (Nat.le_of_ble_eq_true rfl) (Nat.le_of_ble_eq_true rfl) dL_law_1864 (by omega) (by omega) rfl (fun r0 s0 hr => ?_)
  obtain ⟨k, rfl, h⟩ := hr
  show Go K _ _ s0 1867 [some (.ref b), some (.ref (xad (fX K) 14 0)), some (.ref (xad (fX K) 15 0)), some (.ref (xad (fX K) 17 0)), some (.ref (xad (fX K) 18 0)), some (.int iv), none, none, none] (.int k :: [])
  refine g_istore (np := 1869) (lv' := [some (.ref b), some (.ref (xad (fX K) 14 0)), some (.ref (xad (fX K) 15 0)), some (.ref (xad (fX K) 17 0)), some (.ref (xad (fX K) 18 0)), some (.int iv), some (.int k), none, none]) B.1 dL_law_1867 (by decide) rfl rfl rfl ?_
  refine g_aload_n (np := 1870) B.1 dL_law_1869 rfl rfl ?_
  refine g_aload_n (np := 1871) B.1 dL_law_1870 rfl rfl ?_
  refine g_iload (np := 1873) B.1 dL_law_1871 rfl rfl ?_
  refine g_iconst (v := 1) (np := 1874) B.1 dL_law_1873 (by decide) rfl ?_
  refine g_iadd (np := 1875) B.1 dL_law_1874 rfl ?_
  refine g_sld (np := 1876) B h1 dL_law_1875 rfl ?_
  rw [e1]
  refine g_callL (np := 1879) B 15 (by decide) rfl rfl rfl (n := 1) (As := [.int a1]) (oX13_pieceByLength B.1.tr a1 _ _ _ h) b_2074 b_2071 b_2072 b_2073 b_85 (by decide +kernel) rfl (Nat.le_of_ble_eq_true rfl) (Nat.le_of_ble_eq_true rfl) (Nat.le_of_ble_eq_true rfl) dL_law_1876 (by omega) (by omega) rfl (fun r1 s1 hr => ?_)
  obtain ⟨bb, rfl, h⟩ := hr
  show Go K _ _ s1 1879 [some (.ref b), some (.ref (xad (fX K) 14 0)), some (.ref (xad (fX K) 15 0)), some (.ref (xad (fX K) 17 0)), some (.ref (xad (fX K) 18 0)), some (.int iv), some (.int k), none, none] (.int bb :: [])
  refine g_istore (np := 1881) (lv' := [some (.ref b), some (.ref (xad (fX K) 14 0)), some (.ref (xad (fX K) 15 0)), some (.ref (xad (fX K) 17 0)), some (.ref (xad (fX K) 18 0)), some (.int iv), some (.int k), some (.int bb), none]) B.1 dL_law_1879 (by decide) rfl rfl rfl ?_
  refine g_aload_n (np := 1882) B.1 dL_law_1881 rfl rfl ?_
  refine g_callL (np := 1885) B 15 (by decide) rfl rfl rfl (n := 0) (As := []) (oX13_thrown B.1.tr  _ _ _ h) b_1814 b_1811 b_1812 b_1813 b_85 (by decide +kernel) rfl (Nat.le_of_ble_eq_true rfl) (Nat.le_of_ble_eq_true rfl) (Nat.le_of_ble_eq_true rfl) dL_law_1882 (by omega) (by omega) rfl (fun r2 s2 hr => ?_)
  obtain ⟨t, rfl, h⟩ := hr
  show Go K _ _ s2 1885 [some (.ref b), some (.ref (xad (fX K) 14 0)), some (.ref (xad (fX K) 15 0)), some (.ref (xad (fX K) 17 0)), some (.ref (xad (fX K) 18 0)), some (.int iv), some (.int k), some (.int bb), none] (.int t :: [])
  obtain ⟨hk, hv, h⟩ := h
  refine g_iload (np := 1887) B.1 dL_law_1885 rfl rfl ?_
  refine g_icmp_eq (np := 1890) (tgt := 1892) B.1 dL_law_1887 (by decide) rfl (fun _ => ?_) (fun q => absurd hk q)
  refine g_iload (np := 1894) B.1 dL_law_1892 rfl rfl ?_
  have key : Go K (cells + 1) (slots + 6) s2 1909 [some (.ref b), some (.ref (xad (fX K) 14 0)), some (.ref (xad (fX K) 15 0)), some (.ref (xad (fX K) 17 0)), some (.ref (xad (fX K) 18 0)), some (.int iv), some (.int k), some (.int bb), none] [] := by
    refine g_goto (tgt := 2684) B.1 dL_law_1909 (by decide) ?_
    refine Go.lle [some (.ref b), some (.ref (xad (fX K) 14 0)), some (.ref (xad (fX K) 15 0)), some (.ref (xad (fX K) 17 0)), some (.ref (xad (fX K) 18 0)), some (.int iv), none, none, none] (by simp [lle]) ?_
    exact Go.widen (by omega) (by omega) (kk _ h)
  refine g_if_ne (np := 1897) (tgt := 1909) B.1 dL_law_1894 (by decide) rfl (fun _ => Go.widen (by omega) (by omega) key) (fun q => ?_)
  replace hv := hv q
  refine g_aload_n (np := 1898) B.1 dL_law_1897 rfl rfl ?_
  refine g_iconst (v := 0) (np := 1899) B.1 dL_law_1898 (by decide) rfl ?_
  refine g_lald (np := 1900) B.1 dL_law_1899 rfl ?_
  refine g_iload (np := 1902) B.1 dL_law_1900 rfl rfl ?_
  refine g_i2l (np := 1903) B.1 dL_law_1902 rfl ?_
  rw [hv]
  refine g_lcmp (np := 1904) B.1 dL_law_1903 rfl ?_
  rw [lcmp_self]
  refine g_if_eq (np := 1907) (tgt := 1909) B.1 dL_law_1904 (by decide) rfl (fun _ => Go.widen (by omega) (by omega) key) (fun q => absurd rfl q)
def wC_32 (a1 : Int32) (s_ : Mem) (Q : Mem → Prop) : Prop := wL_worthOf a1 s_ (fun (k : Int32) (s0 : Mem) => wX13_worthOf a1 s0 (fun (bb : Int32) (s1 : Mem) => wX13_thrown  s1 (fun (t : Int32) (s2 : Mem) => t = k ∧ (k = 0 → rdL s2 = bb.toInt64) ∧ Q s2) (fun _ _ => False)) (fun _ _ => False))
set_option maxRecDepth 20000 in
set_option maxHeartbeats 4000000 in
theorem oC_32 {K : Fr} {b L : Nat} {xs : Nat → Int32} (B : BL K b L xs) {cells slots : Nat} {iv : Int32} {a1 : Int32} (h1 : vp_in (iv + 1) L) (e1 : xs (iv + 1).toNatClampNeg = a1) {s_ : Mem} {Q : Mem → Prop} (h : wC_32 a1 s_ Q) (hc : cells + 32 ≤ 603072) (hs : slots + 9000 ≤ 7202922) (kk : ∀ σ, Q σ → Go K (cells + 32) (slots + 9000) σ 2684 [some (.ref b), some (.ref (xad (fX K) 14 0)), some (.ref (xad (fX K) 15 0)), some (.ref (xad (fX K) 17 0)), some (.ref (xad (fX K) 18 0)), some (.int iv), none, none, none] []) : Go K cells slots s_ 1912 [some (.ref b), some (.ref (xad (fX K) 14 0)), some (.ref (xad (fX K) 15 0)), some (.ref (xad (fX K) 17 0)), some (.ref (xad (fX K) 18 0)), some (.int iv), none, none, none] [] := by
  unfold wC_32 at h
  refine g_aload_n (np := 1913) B.1 dL_law_1912 rfl rfl ?_
  refine g_aload_n (np := 1914) B.1 dL_law_1913 rfl rfl ?_
  refine g_iload (np := 1916) B.1 dL_law_1914 rfl rfl ?_
  refine g_iconst (v := 1) (np := 1917) B.1 dL_law_1916 (by decide) rfl ?_
  refine g_iadd (np := 1918) B.1 dL_law_1917 rfl ?_
  refine g_sld (np := 1919) B h1 dL_law_1918 rfl ?_
  rw [e1]
  refine g_aload_n (np := 1920) B.1 dL_law_1919 rfl rfl ?_
  refine g_callW (np := 1923) B (n := 3) (As := [.ref (xad (fX K) 14 0), .int a1, .ref (xad (fX K) 17 0)]) (oL_worthOf B.1.tr a1 _ _ h) b_1528 b_1526 b_1527 b_69 (by decide +kernel) rfl (Nat.le_of_ble_eq_true rfl) (Nat.le_of_ble_eq_true rfl) (Nat.le_of_ble_eq_true rfl) dL_law_1920 (by omega) (by omega) rfl (fun r0 s0 hr => ?_)
  obtain ⟨k, rfl, h⟩ := hr
  show Go K _ _ s0 1923 [some (.ref b), some (.ref (xad (fX K) 14 0)), some (.ref (xad (fX K) 15 0)), some (.ref (xad (fX K) 17 0)), some (.ref (xad (fX K) 18 0)), some (.int iv), none, none, none] (.int k :: [])
  refine g_istore (np := 1925) (lv' := [some (.ref b), some (.ref (xad (fX K) 14 0)), some (.ref (xad (fX K) 15 0)), some (.ref (xad (fX K) 17 0)), some (.ref (xad (fX K) 18 0)), some (.int iv), some (.int k), none, none]) B.1 dL_law_1923 (by decide) rfl rfl rfl ?_
  refine g_aload_n (np := 1926) B.1 dL_law_1925 rfl rfl ?_
  refine g_aload_n (np := 1927) B.1 dL_law_1926 rfl rfl ?_
  refine g_iload (np := 1929) B.1 dL_law_1927 rfl rfl ?_
  refine g_iconst (v := 1) (np := 1930) B.1 dL_law_1929 (by decide) rfl ?_
  refine g_iadd (np := 1931) B.1 dL_law_1930 rfl ?_
  refine g_sld (np := 1932) B h1 dL_law_1931 rfl ?_
  rw [e1]
  refine g_callL (np := 1935) B 15 (by decide) rfl rfl rfl (n := 1) (As := [.int a1]) (oX13_worthOf B.1.tr a1 _ _ _ h) b_2078 b_2075 b_2076 b_2077 b_85 (by decide +kernel) rfl (Nat.le_of_ble_eq_true rfl) (Nat.le_of_ble_eq_true rfl) (Nat.le_of_ble_eq_true rfl) dL_law_1932 (by omega) (by omega) rfl (fun r1 s1 hr => ?_)
  obtain ⟨bb, rfl, h⟩ := hr
  show Go K _ _ s1 1935 [some (.ref b), some (.ref (xad (fX K) 14 0)), some (.ref (xad (fX K) 15 0)), some (.ref (xad (fX K) 17 0)), some (.ref (xad (fX K) 18 0)), some (.int iv), some (.int k), none, none] (.int bb :: [])
  refine g_istore (np := 1937) (lv' := [some (.ref b), some (.ref (xad (fX K) 14 0)), some (.ref (xad (fX K) 15 0)), some (.ref (xad (fX K) 17 0)), some (.ref (xad (fX K) 18 0)), some (.int iv), some (.int k), some (.int bb), none]) B.1 dL_law_1935 (by decide) rfl rfl rfl ?_
  refine g_aload_n (np := 1938) B.1 dL_law_1937 rfl rfl ?_
  refine g_callL (np := 1941) B 15 (by decide) rfl rfl rfl (n := 0) (As := []) (oX13_thrown B.1.tr  _ _ _ h) b_1814 b_1811 b_1812 b_1813 b_85 (by decide +kernel) rfl (Nat.le_of_ble_eq_true rfl) (Nat.le_of_ble_eq_true rfl) (Nat.le_of_ble_eq_true rfl) dL_law_1938 (by omega) (by omega) rfl (fun r2 s2 hr => ?_)
  obtain ⟨t, rfl, h⟩ := hr
  show Go K _ _ s2 1941 [some (.ref b), some (.ref (xad (fX K) 14 0)), some (.ref (xad (fX K) 15 0)), some (.ref (xad (fX K) 17 0)), some (.ref (xad (fX K) 18 0)), some (.int iv), some (.int k), some (.int bb), none] (.int t :: [])
  obtain ⟨hk, hv, h⟩ := h
  refine g_iload (np := 1943) B.1 dL_law_1941 rfl rfl ?_
  refine g_icmp_eq (np := 1946) (tgt := 1948) B.1 dL_law_1943 (by decide) rfl (fun _ => ?_) (fun q => absurd hk q)
  refine g_iload (np := 1950) B.1 dL_law_1948 rfl rfl ?_
  have key : Go K (cells + 1) (slots + 6) s2 1965 [some (.ref b), some (.ref (xad (fX K) 14 0)), some (.ref (xad (fX K) 15 0)), some (.ref (xad (fX K) 17 0)), some (.ref (xad (fX K) 18 0)), some (.int iv), some (.int k), some (.int bb), none] [] := by
    refine g_goto (tgt := 2684) B.1 dL_law_1965 (by decide) ?_
    refine Go.lle [some (.ref b), some (.ref (xad (fX K) 14 0)), some (.ref (xad (fX K) 15 0)), some (.ref (xad (fX K) 17 0)), some (.ref (xad (fX K) 18 0)), some (.int iv), none, none, none] (by simp [lle]) ?_
    exact Go.widen (by omega) (by omega) (kk _ h)
  refine g_if_ne (np := 1953) (tgt := 1965) B.1 dL_law_1950 (by decide) rfl (fun _ => Go.widen (by omega) (by omega) key) (fun q => ?_)
  replace hv := hv q
  refine g_aload_n (np := 1954) B.1 dL_law_1953 rfl rfl ?_
  refine g_iconst (v := 0) (np := 1955) B.1 dL_law_1954 (by decide) rfl ?_
  refine g_lald (np := 1956) B.1 dL_law_1955 rfl ?_
  refine g_iload (np := 1958) B.1 dL_law_1956 rfl rfl ?_
  refine g_i2l (np := 1959) B.1 dL_law_1958 rfl ?_
  rw [hv]
  refine g_lcmp (np := 1960) B.1 dL_law_1959 rfl ?_
  rw [lcmp_self]
  refine g_if_eq (np := 1963) (tgt := 1965) B.1 dL_law_1960 (by decide) rfl (fun _ => Go.widen (by omega) (by omega) key) (fun q => absurd rfl q)
def wC_33 (s_ : Mem) (Q : Mem → Prop) : Prop := wX12_spliceCost  s_ (fun (r1 : Int32) (s1 : Mem) => wX13_spliceCost  s1 (fun (r2 : Int32) (s2 : Mem) => r1 = r2 ∧ Q s2) (fun _ _ => False)) (fun _ _ => False)
set_option maxRecDepth 20000 in
set_option maxHeartbeats 4000000 in
theorem oC_33 {K : Fr} {b L : Nat} {xs : Nat → Int32} (B : BL K b L xs) {cells slots : Nat} {iv : Int32} {s_ : Mem} {Q : Mem → Prop} (h : wC_33  s_ Q) (hc : cells + 32 ≤ 603072) (hs : slots + 9000 ≤ 7202922) (kk : ∀ σ, Q σ → Go K (cells + 32) (slots + 9000) σ 2684 [some (.ref b), some (.ref (xad (fX K) 14 0)), some (.ref (xad (fX K) 15 0)), some (.ref (xad (fX K) 17 0)), some (.ref (xad (fX K) 18 0)), some (.int iv), none, none, none] []) : Go K cells slots s_ 1968 [some (.ref b), some (.ref (xad (fX K) 14 0)), some (.ref (xad (fX K) 15 0)), some (.ref (xad (fX K) 17 0)), some (.ref (xad (fX K) 18 0)), some (.int iv), none, none, none] [] := by
  unfold wC_33 at h
  refine g_aload_n (np := 1969) B.1 dL_law_1968 rfl rfl ?_
  refine g_callL (np := 1972) B 14 (by decide) rfl rfl rfl (n := 0) (As := []) (oX12_spliceCost B.1.tr  _ _ _ h) b_516 b_513 b_514 b_515 b_70 (by decide +kernel) rfl (Nat.le_of_ble_eq_true rfl) (Nat.le_of_ble_eq_true rfl) (Nat.le_of_ble_eq_true rfl) dL_law_1969 (by omega) (by omega) rfl (fun r1 s1 hr => ?_)
  obtain ⟨r1, rfl, h⟩ := hr
  show Go K _ _ s1 1972 [some (.ref b), some (.ref (xad (fX K) 14 0)), some (.ref (xad (fX K) 15 0)), some (.ref (xad (fX K) 17 0)), some (.ref (xad (fX K) 18 0)), some (.int iv), none, none, none] (.int r1 :: [])
  refine g_aload_n (np := 1973) B.1 dL_law_1972 rfl rfl ?_
  refine g_callL (np := 1976) B 15 (by decide) rfl rfl rfl (n := 0) (As := []) (oX13_spliceCost B.1.tr  _ _ _ h) b_2082 b_2079 b_2080 b_2081 b_85 (by decide +kernel) rfl (Nat.le_of_ble_eq_true rfl) (Nat.le_of_ble_eq_true rfl) (Nat.le_of_ble_eq_true rfl) dL_law_1973 (by omega) (by omega) rfl (fun r2 s2 hr => ?_)
  obtain ⟨r2, rfl, h⟩ := hr
  show Go K _ _ s2 1976 [some (.ref b), some (.ref (xad (fX K) 14 0)), some (.ref (xad (fX K) 15 0)), some (.ref (xad (fX K) 17 0)), some (.ref (xad (fX K) 18 0)), some (.int iv), none, none, none] (.int r2 :: .int r1 :: [])
  obtain ⟨he, h⟩ := h
  refine g_icmp_eq (np := 1979) (tgt := 2684) B.1 dL_law_1976 (by decide) rfl (fun _ => ?_) (fun q => absurd he q)
  exact Go.widen (by omega) (by omega) (kk _ h)
def wC_34 (s_ : Mem) (Q : Mem → Prop) : Prop := wX12_spliceCostByMemory  s_ (fun (r1 : Int32) (s1 : Mem) => wX13_spliceCostByMemory  s1 (fun (r2 : Int32) (s2 : Mem) => r1 = r2 ∧ Q s2) (fun _ _ => False)) (fun _ _ => False)
set_option maxRecDepth 20000 in
set_option maxHeartbeats 4000000 in
theorem oC_34 {K : Fr} {b L : Nat} {xs : Nat → Int32} (B : BL K b L xs) {cells slots : Nat} {iv : Int32} {s_ : Mem} {Q : Mem → Prop} (h : wC_34  s_ Q) (hc : cells + 32 ≤ 603072) (hs : slots + 9000 ≤ 7202922) (kk : ∀ σ, Q σ → Go K (cells + 32) (slots + 9000) σ 2684 [some (.ref b), some (.ref (xad (fX K) 14 0)), some (.ref (xad (fX K) 15 0)), some (.ref (xad (fX K) 17 0)), some (.ref (xad (fX K) 18 0)), some (.int iv), none, none, none] []) : Go K cells slots s_ 1981 [some (.ref b), some (.ref (xad (fX K) 14 0)), some (.ref (xad (fX K) 15 0)), some (.ref (xad (fX K) 17 0)), some (.ref (xad (fX K) 18 0)), some (.int iv), none, none, none] [] := by
  unfold wC_34 at h
  refine g_aload_n (np := 1982) B.1 dL_law_1981 rfl rfl ?_
  refine g_callL (np := 1985) B 14 (by decide) rfl rfl rfl (n := 0) (As := []) (oX12_spliceCostByMemory B.1.tr  _ _ _ h) b_538 b_535 b_536 b_537 b_70 (by decide +kernel) rfl (Nat.le_of_ble_eq_true rfl) (Nat.le_of_ble_eq_true rfl) (Nat.le_of_ble_eq_true rfl) dL_law_1982 (by omega) (by omega) rfl (fun r1 s1 hr => ?_)
  obtain ⟨r1, rfl, h⟩ := hr
  show Go K _ _ s1 1985 [some (.ref b), some (.ref (xad (fX K) 14 0)), some (.ref (xad (fX K) 15 0)), some (.ref (xad (fX K) 17 0)), some (.ref (xad (fX K) 18 0)), some (.int iv), none, none, none] (.int r1 :: [])
  refine g_aload_n (np := 1986) B.1 dL_law_1985 rfl rfl ?_
  refine g_callL (np := 1989) B 15 (by decide) rfl rfl rfl (n := 0) (As := []) (oX13_spliceCostByMemory B.1.tr  _ _ _ h) b_2086 b_2083 b_2084 b_2085 b_85 (by decide +kernel) rfl (Nat.le_of_ble_eq_true rfl) (Nat.le_of_ble_eq_true rfl) (Nat.le_of_ble_eq_true rfl) dL_law_1986 (by omega) (by omega) rfl (fun r2 s2 hr => ?_)
  obtain ⟨r2, rfl, h⟩ := hr
  show Go K _ _ s2 1989 [some (.ref b), some (.ref (xad (fX K) 14 0)), some (.ref (xad (fX K) 15 0)), some (.ref (xad (fX K) 17 0)), some (.ref (xad (fX K) 18 0)), some (.int iv), none, none, none] (.int r2 :: .int r1 :: [])
  obtain ⟨he, h⟩ := h
  refine g_icmp_eq (np := 1992) (tgt := 2684) B.1 dL_law_1989 (by decide) rfl (fun _ => ?_) (fun q => absurd he q)
  exact Go.widen (by omega) (by omega) (kk _ h)
def wC_35 (s_ : Mem) (Q : Mem → Prop) : Prop := wX12_roving  s_ (fun (r1 : Int32) (s1 : Mem) => wX13_roving  s1 (fun (r2 : Int32) (s2 : Mem) => r1 = r2 ∧ Q s2) (fun _ _ => False)) (fun _ _ => False)
set_option maxRecDepth 20000 in
set_option maxHeartbeats 4000000 in
theorem oC_35 {K : Fr} {b L : Nat} {xs : Nat → Int32} (B : BL K b L xs) {cells slots : Nat} {iv : Int32} {s_ : Mem} {Q : Mem → Prop} (h : wC_35  s_ Q) (hc : cells + 32 ≤ 603072) (hs : slots + 9000 ≤ 7202922) (kk : ∀ σ, Q σ → Go K (cells + 32) (slots + 9000) σ 2684 [some (.ref b), some (.ref (xad (fX K) 14 0)), some (.ref (xad (fX K) 15 0)), some (.ref (xad (fX K) 17 0)), some (.ref (xad (fX K) 18 0)), some (.int iv), none, none, none] []) : Go K cells slots s_ 1994 [some (.ref b), some (.ref (xad (fX K) 14 0)), some (.ref (xad (fX K) 15 0)), some (.ref (xad (fX K) 17 0)), some (.ref (xad (fX K) 18 0)), some (.int iv), none, none, none] [] := by
  unfold wC_35 at h
  refine g_aload_n (np := 1995) B.1 dL_law_1994 rfl rfl ?_
  refine g_callL (np := 1998) B 14 (by decide) rfl rfl rfl (n := 0) (As := []) (oX12_roving B.1.tr  _ _ _ h) b_549 b_546 b_547 b_548 b_70 (by decide +kernel) rfl (Nat.le_of_ble_eq_true rfl) (Nat.le_of_ble_eq_true rfl) (Nat.le_of_ble_eq_true rfl) dL_law_1995 (by omega) (by omega) rfl (fun r1 s1 hr => ?_)
  obtain ⟨r1, rfl, h⟩ := hr
  show Go K _ _ s1 1998 [some (.ref b), some (.ref (xad (fX K) 14 0)), some (.ref (xad (fX K) 15 0)), some (.ref (xad (fX K) 17 0)), some (.ref (xad (fX K) 18 0)), some (.int iv), none, none, none] (.int r1 :: [])
  refine g_aload_n (np := 1999) B.1 dL_law_1998 rfl rfl ?_
  refine g_callL (np := 2002) B 15 (by decide) rfl rfl rfl (n := 0) (As := []) (oX13_roving B.1.tr  _ _ _ h) b_2091 b_2088 b_2089 b_2090 b_85 (by decide +kernel) rfl (Nat.le_of_ble_eq_true rfl) (Nat.le_of_ble_eq_true rfl) (Nat.le_of_ble_eq_true rfl) dL_law_1999 (by omega) (by omega) rfl (fun r2 s2 hr => ?_)
  obtain ⟨r2, rfl, h⟩ := hr
  show Go K _ _ s2 2002 [some (.ref b), some (.ref (xad (fX K) 14 0)), some (.ref (xad (fX K) 15 0)), some (.ref (xad (fX K) 17 0)), some (.ref (xad (fX K) 18 0)), some (.int iv), none, none, none] (.int r2 :: .int r1 :: [])
  obtain ⟨he, h⟩ := h
  refine g_icmp_eq (np := 2005) (tgt := 2684) B.1 dL_law_2002 (by decide) rfl (fun _ => ?_) (fun q => absurd he q)
  exact Go.widen (by omega) (by omega) (kk _ h)
def wC_36 (s_ : Mem) (Q : Mem → Prop) : Prop := wX12_machines  s_ (fun (r1 : Int32) (s1 : Mem) => wX13_machines  s1 (fun (r2 : Int32) (s2 : Mem) => r1 = r2 ∧ Q s2) (fun _ _ => False)) (fun _ _ => False)
set_option maxRecDepth 20000 in
set_option maxHeartbeats 4000000 in
theorem oC_36 {K : Fr} {b L : Nat} {xs : Nat → Int32} (B : BL K b L xs) {cells slots : Nat} {iv : Int32} {s_ : Mem} {Q : Mem → Prop} (h : wC_36  s_ Q) (hc : cells + 32 ≤ 603072) (hs : slots + 9000 ≤ 7202922) (kk : ∀ σ, Q σ → Go K (cells + 32) (slots + 9000) σ 2684 [some (.ref b), some (.ref (xad (fX K) 14 0)), some (.ref (xad (fX K) 15 0)), some (.ref (xad (fX K) 17 0)), some (.ref (xad (fX K) 18 0)), some (.int iv), none, none, none] []) : Go K cells slots s_ 2007 [some (.ref b), some (.ref (xad (fX K) 14 0)), some (.ref (xad (fX K) 15 0)), some (.ref (xad (fX K) 17 0)), some (.ref (xad (fX K) 18 0)), some (.int iv), none, none, none] [] := by
  unfold wC_36 at h
  refine g_aload_n (np := 2008) B.1 dL_law_2007 rfl rfl ?_
  refine g_callL (np := 2011) B 14 (by decide) rfl rfl rfl (n := 0) (As := []) (oX12_machines B.1.tr  _ _ _ h) b_553 b_550 b_551 b_552 b_70 (by decide +kernel) rfl (Nat.le_of_ble_eq_true rfl) (Nat.le_of_ble_eq_true rfl) (Nat.le_of_ble_eq_true rfl) dL_law_2008 (by omega) (by omega) rfl (fun r1 s1 hr => ?_)
  obtain ⟨r1, rfl, h⟩ := hr
  show Go K _ _ s1 2011 [some (.ref b), some (.ref (xad (fX K) 14 0)), some (.ref (xad (fX K) 15 0)), some (.ref (xad (fX K) 17 0)), some (.ref (xad (fX K) 18 0)), some (.int iv), none, none, none] (.int r1 :: [])
  refine g_aload_n (np := 2012) B.1 dL_law_2011 rfl rfl ?_
  refine g_callL (np := 2015) B 15 (by decide) rfl rfl rfl (n := 0) (As := []) (oX13_machines B.1.tr  _ _ _ h) b_2095 b_2092 b_2093 b_2094 b_85 (by decide +kernel) rfl (Nat.le_of_ble_eq_true rfl) (Nat.le_of_ble_eq_true rfl) (Nat.le_of_ble_eq_true rfl) dL_law_2012 (by omega) (by omega) rfl (fun r2 s2 hr => ?_)
  obtain ⟨r2, rfl, h⟩ := hr
  show Go K _ _ s2 2015 [some (.ref b), some (.ref (xad (fX K) 14 0)), some (.ref (xad (fX K) 15 0)), some (.ref (xad (fX K) 17 0)), some (.ref (xad (fX K) 18 0)), some (.int iv), none, none, none] (.int r2 :: .int r1 :: [])
  obtain ⟨he, h⟩ := h
  refine g_icmp_eq (np := 2018) (tgt := 2684) B.1 dL_law_2015 (by decide) rfl (fun _ => ?_) (fun q => absurd he q)
  exact Go.widen (by omega) (by omega) (kk _ h)
def wC_37 (s_ : Mem) (Q : Mem → Prop) : Prop := wX12_clock  s_ (fun (r1 : Int32) (s1 : Mem) => wX13_clock  s1 (fun (r2 : Int32) (s2 : Mem) => r1 = r2 ∧ Q s2) (fun _ _ => False)) (fun _ _ => False)
set_option maxRecDepth 20000 in
set_option maxHeartbeats 4000000 in
theorem oC_37 {K : Fr} {b L : Nat} {xs : Nat → Int32} (B : BL K b L xs) {cells slots : Nat} {iv : Int32} {s_ : Mem} {Q : Mem → Prop} (h : wC_37  s_ Q) (hc : cells + 32 ≤ 603072) (hs : slots + 9000 ≤ 7202922) (kk : ∀ σ, Q σ → Go K (cells + 32) (slots + 9000) σ 2684 [some (.ref b), some (.ref (xad (fX K) 14 0)), some (.ref (xad (fX K) 15 0)), some (.ref (xad (fX K) 17 0)), some (.ref (xad (fX K) 18 0)), some (.int iv), none, none, none] []) : Go K cells slots s_ 2020 [some (.ref b), some (.ref (xad (fX K) 14 0)), some (.ref (xad (fX K) 15 0)), some (.ref (xad (fX K) 17 0)), some (.ref (xad (fX K) 18 0)), some (.int iv), none, none, none] [] := by
  unfold wC_37 at h
  refine g_aload_n (np := 2021) B.1 dL_law_2020 rfl rfl ?_
  refine g_callL (np := 2024) B 14 (by decide) rfl rfl rfl (n := 0) (As := []) (oX12_clock B.1.tr  _ _ _ h) b_557 b_554 b_555 b_556 b_70 (by decide +kernel) rfl (Nat.le_of_ble_eq_true rfl) (Nat.le_of_ble_eq_true rfl) (Nat.le_of_ble_eq_true rfl) dL_law_2021 (by omega) (by omega) rfl (fun r1 s1 hr => ?_)
  obtain ⟨r1, rfl, h⟩ := hr
  show Go K _ _ s1 2024 [some (.ref b), some (.ref (xad (fX K) 14 0)), some (.ref (xad (fX K) 15 0)), some (.ref (xad (fX K) 17 0)), some (.ref (xad (fX K) 18 0)), some (.int iv), none, none, none] (.int r1 :: [])
  refine g_aload_n (np := 2025) B.1 dL_law_2024 rfl rfl ?_
  refine g_callL (np := 2028) B 15 (by decide) rfl rfl rfl (n := 0) (As := []) (oX13_clock B.1.tr  _ _ _ h) b_2099 b_2096 b_2097 b_2098 b_85 (by decide +kernel) rfl (Nat.le_of_ble_eq_true rfl) (Nat.le_of_ble_eq_true rfl) (Nat.le_of_ble_eq_true rfl) dL_law_2025 (by omega) (by omega) rfl (fun r2 s2 hr => ?_)
  obtain ⟨r2, rfl, h⟩ := hr
  show Go K _ _ s2 2028 [some (.ref b), some (.ref (xad (fX K) 14 0)), some (.ref (xad (fX K) 15 0)), some (.ref (xad (fX K) 17 0)), some (.ref (xad (fX K) 18 0)), some (.int iv), none, none, none] (.int r2 :: .int r1 :: [])
  obtain ⟨he, h⟩ := h
  refine g_icmp_eq (np := 2031) (tgt := 2684) B.1 dL_law_2028 (by decide) rfl (fun _ => ?_) (fun q => absurd he q)
  exact Go.widen (by omega) (by omega) (kk _ h)
def wC_38 (s_ : Mem) (Q : Mem → Prop) : Prop := wX12_coins  s_ (fun (r1 : Int32) (s1 : Mem) => wX13_coins  s1 (fun (r2 : Int32) (s2 : Mem) => r1 = r2 ∧ Q s2) (fun _ _ => False)) (fun _ _ => False)
set_option maxRecDepth 20000 in
set_option maxHeartbeats 4000000 in
theorem oC_38 {K : Fr} {b L : Nat} {xs : Nat → Int32} (B : BL K b L xs) {cells slots : Nat} {iv : Int32} {s_ : Mem} {Q : Mem → Prop} (h : wC_38  s_ Q) (hc : cells + 32 ≤ 603072) (hs : slots + 9000 ≤ 7202922) (kk : ∀ σ, Q σ → Go K (cells + 32) (slots + 9000) σ 2684 [some (.ref b), some (.ref (xad (fX K) 14 0)), some (.ref (xad (fX K) 15 0)), some (.ref (xad (fX K) 17 0)), some (.ref (xad (fX K) 18 0)), some (.int iv), none, none, none] []) : Go K cells slots s_ 2033 [some (.ref b), some (.ref (xad (fX K) 14 0)), some (.ref (xad (fX K) 15 0)), some (.ref (xad (fX K) 17 0)), some (.ref (xad (fX K) 18 0)), some (.int iv), none, none, none] [] := by
  unfold wC_38 at h
  refine g_aload_n (np := 2034) B.1 dL_law_2033 rfl rfl ?_
  refine g_callL (np := 2037) B 14 (by decide) rfl rfl rfl (n := 0) (As := []) (oX12_coins B.1.tr  _ _ _ h) b_561 b_558 b_559 b_560 b_70 (by decide +kernel) rfl (Nat.le_of_ble_eq_true rfl) (Nat.le_of_ble_eq_true rfl) (Nat.le_of_ble_eq_true rfl) dL_law_2034 (by omega) (by omega) rfl (fun r1 s1 hr => ?_)
  obtain ⟨r1, rfl, h⟩ := hr
  show Go K _ _ s1 2037 [some (.ref b), some (.ref (xad (fX K) 14 0)), some (.ref (xad (fX K) 15 0)), some (.ref (xad (fX K) 17 0)), some (.ref (xad (fX K) 18 0)), some (.int iv), none, none, none] (.int r1 :: [])
  refine g_aload_n (np := 2038) B.1 dL_law_2037 rfl rfl ?_
  refine g_callL (np := 2041) B 15 (by decide) rfl rfl rfl (n := 0) (As := []) (oX13_coins B.1.tr  _ _ _ h) b_2103 b_2100 b_2101 b_2102 b_85 (by decide +kernel) rfl (Nat.le_of_ble_eq_true rfl) (Nat.le_of_ble_eq_true rfl) (Nat.le_of_ble_eq_true rfl) dL_law_2038 (by omega) (by omega) rfl (fun r2 s2 hr => ?_)
  obtain ⟨r2, rfl, h⟩ := hr
  show Go K _ _ s2 2041 [some (.ref b), some (.ref (xad (fX K) 14 0)), some (.ref (xad (fX K) 15 0)), some (.ref (xad (fX K) 17 0)), some (.ref (xad (fX K) 18 0)), some (.int iv), none, none, none] (.int r2 :: .int r1 :: [])
  obtain ⟨he, h⟩ := h
  refine g_icmp_eq (np := 2044) (tgt := 2684) B.1 dL_law_2041 (by decide) rfl (fun _ => ?_) (fun q => absurd he q)
  exact Go.widen (by omega) (by omega) (kk _ h)
def wC_39 (s_ : Mem) (Q : Mem → Prop) : Prop := wX12_coinsByAccounts  s_ (fun (r1 : Int32) (s1 : Mem) => wX13_coinsByAccounts  s1 (fun (r2 : Int32) (s2 : Mem) => r1 = r2 ∧ Q s2) (fun _ _ => False)) (fun _ _ => False)
set_option maxRecDepth 20000 in
set_option maxHeartbeats 4000000 in
theorem oC_39 {K : Fr} {b L : Nat} {xs : Nat → Int32} (B : BL K b L xs) {cells slots : Nat} {iv : Int32} {s_ : Mem} {Q : Mem → Prop} (h : wC_39  s_ Q) (hc : cells + 32 ≤ 603072) (hs : slots + 9000 ≤ 7202922) (kk : ∀ σ, Q σ → Go K (cells + 32) (slots + 9000) σ 2684 [some (.ref b), some (.ref (xad (fX K) 14 0)), some (.ref (xad (fX K) 15 0)), some (.ref (xad (fX K) 17 0)), some (.ref (xad (fX K) 18 0)), some (.int iv), none, none, none] []) : Go K cells slots s_ 2046 [some (.ref b), some (.ref (xad (fX K) 14 0)), some (.ref (xad (fX K) 15 0)), some (.ref (xad (fX K) 17 0)), some (.ref (xad (fX K) 18 0)), some (.int iv), none, none, none] [] := by
  unfold wC_39 at h
  refine g_aload_n (np := 2047) B.1 dL_law_2046 rfl rfl ?_
  refine g_callL (np := 2050) B 14 (by decide) rfl rfl rfl (n := 0) (As := []) (oX12_coinsByAccounts B.1.tr  _ _ _ h) b_565 b_562 b_563 b_564 b_70 (by decide +kernel) rfl (Nat.le_of_ble_eq_true rfl) (Nat.le_of_ble_eq_true rfl) (Nat.le_of_ble_eq_true rfl) dL_law_2047 (by omega) (by omega) rfl (fun r1 s1 hr => ?_)
  obtain ⟨r1, rfl, h⟩ := hr
  show Go K _ _ s1 2050 [some (.ref b), some (.ref (xad (fX K) 14 0)), some (.ref (xad (fX K) 15 0)), some (.ref (xad (fX K) 17 0)), some (.ref (xad (fX K) 18 0)), some (.int iv), none, none, none] (.int r1 :: [])
  refine g_aload_n (np := 2051) B.1 dL_law_2050 rfl rfl ?_
  refine g_callL (np := 2054) B 15 (by decide) rfl rfl rfl (n := 0) (As := []) (oX13_coinsByAccounts B.1.tr  _ _ _ h) b_2107 b_2104 b_2105 b_2106 b_85 (by decide +kernel) rfl (Nat.le_of_ble_eq_true rfl) (Nat.le_of_ble_eq_true rfl) (Nat.le_of_ble_eq_true rfl) dL_law_2051 (by omega) (by omega) rfl (fun r2 s2 hr => ?_)
  obtain ⟨r2, rfl, h⟩ := hr
  show Go K _ _ s2 2054 [some (.ref b), some (.ref (xad (fX K) 14 0)), some (.ref (xad (fX K) 15 0)), some (.ref (xad (fX K) 17 0)), some (.ref (xad (fX K) 18 0)), some (.int iv), none, none, none] (.int r2 :: .int r1 :: [])
  obtain ⟨he, h⟩ := h
  refine g_icmp_eq (np := 2057) (tgt := 2684) B.1 dL_law_2054 (by decide) rfl (fun _ => ?_) (fun q => absurd he q)
  exact Go.widen (by omega) (by omega) (kk _ h)
def wC_40 (s_ : Mem) (Q : Mem → Prop) : Prop := wX12_spunTotal  s_ (fun (r1 : Int32) (s1 : Mem) => wX13_spunTotal  s1 (fun (r2 : Int32) (s2 : Mem) => r1 = r2 ∧ Q s2) (fun _ _ => False)) (fun _ _ => False)
set_option maxRecDepth 20000 in
set_option maxHeartbeats 4000000 in
theorem oC_40 {K : Fr} {b L : Nat} {xs : Nat → Int32} (B : BL K b L xs) {cells slots : Nat} {iv : Int32} {s_ : Mem} {Q : Mem → Prop} (h : wC_40  s_ Q) (hc : cells + 32 ≤ 603072) (hs : slots + 9000 ≤ 7202922) (kk : ∀ σ, Q σ → Go K (cells + 32) (slots + 9000) σ 2684 [some (.ref b), some (.ref (xad (fX K) 14 0)), some (.ref (xad (fX K) 15 0)), some (.ref (xad (fX K) 17 0)), some (.ref (xad (fX K) 18 0)), some (.int iv), none, none, none] []) : Go K cells slots s_ 2059 [some (.ref b), some (.ref (xad (fX K) 14 0)), some (.ref (xad (fX K) 15 0)), some (.ref (xad (fX K) 17 0)), some (.ref (xad (fX K) 18 0)), some (.int iv), none, none, none] [] := by
  unfold wC_40 at h
  refine g_aload_n (np := 2060) B.1 dL_law_2059 rfl rfl ?_
  refine g_callL (np := 2063) B 14 (by decide) rfl rfl rfl (n := 0) (As := []) (oX12_spunTotal B.1.tr  _ _ _ h) b_573 b_570 b_571 b_572 b_70 (by decide +kernel) rfl (Nat.le_of_ble_eq_true rfl) (Nat.le_of_ble_eq_true rfl) (Nat.le_of_ble_eq_true rfl) dL_law_2060 (by omega) (by omega) rfl (fun r1 s1 hr => ?_)
  obtain ⟨r1, rfl, h⟩ := hr
  show Go K _ _ s1 2063 [some (.ref b), some (.ref (xad (fX K) 14 0)), some (.ref (xad (fX K) 15 0)), some (.ref (xad (fX K) 17 0)), some (.ref (xad (fX K) 18 0)), some (.int iv), none, none, none] (.int r1 :: [])
  refine g_aload_n (np := 2064) B.1 dL_law_2063 rfl rfl ?_
  refine g_callL (np := 2067) B 15 (by decide) rfl rfl rfl (n := 0) (As := []) (oX13_spunTotal B.1.tr  _ _ _ h) b_2111 b_2108 b_2109 b_2110 b_85 (by decide +kernel) rfl (Nat.le_of_ble_eq_true rfl) (Nat.le_of_ble_eq_true rfl) (Nat.le_of_ble_eq_true rfl) dL_law_2064 (by omega) (by omega) rfl (fun r2 s2 hr => ?_)
  obtain ⟨r2, rfl, h⟩ := hr
  show Go K _ _ s2 2067 [some (.ref b), some (.ref (xad (fX K) 14 0)), some (.ref (xad (fX K) 15 0)), some (.ref (xad (fX K) 17 0)), some (.ref (xad (fX K) 18 0)), some (.int iv), none, none, none] (.int r2 :: .int r1 :: [])
  obtain ⟨he, h⟩ := h
  refine g_icmp_eq (np := 2070) (tgt := 2684) B.1 dL_law_2067 (by decide) rfl (fun _ => ?_) (fun q => absurd he q)
  exact Go.widen (by omega) (by omega) (kk _ h)
def wC_41 (s_ : Mem) (Q : Mem → Prop) : Prop := wX12_wasteTotal  s_ (fun (r1 : Int32) (s1 : Mem) => wX13_wasteTotal  s1 (fun (r2 : Int32) (s2 : Mem) => r1 = r2 ∧ Q s2) (fun _ _ => False)) (fun _ _ => False)
set_option maxRecDepth 20000 in
set_option maxHeartbeats 4000000 in
theorem oC_41 {K : Fr} {b L : Nat} {xs : Nat → Int32} (B : BL K b L xs) {cells slots : Nat} {iv : Int32} {s_ : Mem} {Q : Mem → Prop} (h : wC_41  s_ Q) (hc : cells + 32 ≤ 603072) (hs : slots + 9000 ≤ 7202922) (kk : ∀ σ, Q σ → Go K (cells + 32) (slots + 9000) σ 2684 [some (.ref b), some (.ref (xad (fX K) 14 0)), some (.ref (xad (fX K) 15 0)), some (.ref (xad (fX K) 17 0)), some (.ref (xad (fX K) 18 0)), some (.int iv), none, none, none] []) : Go K cells slots s_ 2072 [some (.ref b), some (.ref (xad (fX K) 14 0)), some (.ref (xad (fX K) 15 0)), some (.ref (xad (fX K) 17 0)), some (.ref (xad (fX K) 18 0)), some (.int iv), none, none, none] [] := by
  unfold wC_41 at h
  refine g_aload_n (np := 2073) B.1 dL_law_2072 rfl rfl ?_
  refine g_callL (np := 2076) B 14 (by decide) rfl rfl rfl (n := 0) (As := []) (oX12_wasteTotal B.1.tr  _ _ _ h) b_577 b_574 b_575 b_576 b_70 (by decide +kernel) rfl (Nat.le_of_ble_eq_true rfl) (Nat.le_of_ble_eq_true rfl) (Nat.le_of_ble_eq_true rfl) dL_law_2073 (by omega) (by omega) rfl (fun r1 s1 hr => ?_)
  obtain ⟨r1, rfl, h⟩ := hr
  show Go K _ _ s1 2076 [some (.ref b), some (.ref (xad (fX K) 14 0)), some (.ref (xad (fX K) 15 0)), some (.ref (xad (fX K) 17 0)), some (.ref (xad (fX K) 18 0)), some (.int iv), none, none, none] (.int r1 :: [])
  refine g_aload_n (np := 2077) B.1 dL_law_2076 rfl rfl ?_
  refine g_callL (np := 2080) B 15 (by decide) rfl rfl rfl (n := 0) (As := []) (oX13_wasteTotal B.1.tr  _ _ _ h) b_2115 b_2112 b_2113 b_2114 b_85 (by decide +kernel) rfl (Nat.le_of_ble_eq_true rfl) (Nat.le_of_ble_eq_true rfl) (Nat.le_of_ble_eq_true rfl) dL_law_2077 (by omega) (by omega) rfl (fun r2 s2 hr => ?_)
  obtain ⟨r2, rfl, h⟩ := hr
  show Go K _ _ s2 2080 [some (.ref b), some (.ref (xad (fX K) 14 0)), some (.ref (xad (fX K) 15 0)), some (.ref (xad (fX K) 17 0)), some (.ref (xad (fX K) 18 0)), some (.int iv), none, none, none] (.int r2 :: .int r1 :: [])
  obtain ⟨he, h⟩ := h
  refine g_icmp_eq (np := 2083) (tgt := 2684) B.1 dL_law_2080 (by decide) rfl (fun _ => ?_) (fun q => absurd he q)
  exact Go.widen (by omega) (by omega) (kk _ h)
def wC_42 (s_ : Mem) (Q : Mem → Prop) : Prop := wX12_soldTotal  s_ (fun (r1 : Int32) (s1 : Mem) => wX13_soldTotal  s1 (fun (r2 : Int32) (s2 : Mem) => r1 = r2 ∧ Q s2) (fun _ _ => False)) (fun _ _ => False)
set_option maxRecDepth 20000 in
set_option maxHeartbeats 4000000 in
theorem oC_42 {K : Fr} {b L : Nat} {xs : Nat → Int32} (B : BL K b L xs) {cells slots : Nat} {iv : Int32} {s_ : Mem} {Q : Mem → Prop} (h : wC_42  s_ Q) (hc : cells + 32 ≤ 603072) (hs : slots + 9000 ≤ 7202922) (kk : ∀ σ, Q σ → Go K (cells + 32) (slots + 9000) σ 2684 [some (.ref b), some (.ref (xad (fX K) 14 0)), some (.ref (xad (fX K) 15 0)), some (.ref (xad (fX K) 17 0)), some (.ref (xad (fX K) 18 0)), some (.int iv), none, none, none] []) : Go K cells slots s_ 2085 [some (.ref b), some (.ref (xad (fX K) 14 0)), some (.ref (xad (fX K) 15 0)), some (.ref (xad (fX K) 17 0)), some (.ref (xad (fX K) 18 0)), some (.int iv), none, none, none] [] := by
  unfold wC_42 at h
  refine g_aload_n (np := 2086) B.1 dL_law_2085 rfl rfl ?_
  refine g_callL (np := 2089) B 14 (by decide) rfl rfl rfl (n := 0) (As := []) (oX12_soldTotal B.1.tr  _ _ _ h) b_581 b_578 b_579 b_580 b_70 (by decide +kernel) rfl (Nat.le_of_ble_eq_true rfl) (Nat.le_of_ble_eq_true rfl) (Nat.le_of_ble_eq_true rfl) dL_law_2086 (by omega) (by omega) rfl (fun r1 s1 hr => ?_)
  obtain ⟨r1, rfl, h⟩ := hr
  show Go K _ _ s1 2089 [some (.ref b), some (.ref (xad (fX K) 14 0)), some (.ref (xad (fX K) 15 0)), some (.ref (xad (fX K) 17 0)), some (.ref (xad (fX K) 18 0)), some (.int iv), none, none, none] (.int r1 :: [])
  refine g_aload_n (np := 2090) B.1 dL_law_2089 rfl rfl ?_
  refine g_callL (np := 2093) B 15 (by decide) rfl rfl rfl (n := 0) (As := []) (oX13_soldTotal B.1.tr  _ _ _ h) b_2119 b_2116 b_2117 b_2118 b_85 (by decide +kernel) rfl (Nat.le_of_ble_eq_true rfl) (Nat.le_of_ble_eq_true rfl) (Nat.le_of_ble_eq_true rfl) dL_law_2090 (by omega) (by omega) rfl (fun r2 s2 hr => ?_)
  obtain ⟨r2, rfl, h⟩ := hr
  show Go K _ _ s2 2093 [some (.ref b), some (.ref (xad (fX K) 14 0)), some (.ref (xad (fX K) 15 0)), some (.ref (xad (fX K) 17 0)), some (.ref (xad (fX K) 18 0)), some (.int iv), none, none, none] (.int r2 :: .int r1 :: [])
  obtain ⟨he, h⟩ := h
  refine g_icmp_eq (np := 2096) (tgt := 2684) B.1 dL_law_2093 (by decide) rfl (fun _ => ?_) (fun q => absurd he q)
  exact Go.widen (by omega) (by omega) (kk _ h)
def wC_43 (s_ : Mem) (Q : Mem → Prop) : Prop := wX12_shelfLength  s_ (fun (r1 : Int32) (s1 : Mem) => wX13_shelfLength  s1 (fun (r2 : Int32) (s2 : Mem) => r1 = r2 ∧ Q s2) (fun _ _ => False)) (fun _ _ => False)
set_option maxRecDepth 20000 in
set_option maxHeartbeats 4000000 in
theorem oC_43 {K : Fr} {b L : Nat} {xs : Nat → Int32} (B : BL K b L xs) {cells slots : Nat} {iv : Int32} {s_ : Mem} {Q : Mem → Prop} (h : wC_43  s_ Q) (hc : cells + 32 ≤ 603072) (hs : slots + 9000 ≤ 7202922) (kk : ∀ σ, Q σ → Go K (cells + 32) (slots + 9000) σ 2684 [some (.ref b), some (.ref (xad (fX K) 14 0)), some (.ref (xad (fX K) 15 0)), some (.ref (xad (fX K) 17 0)), some (.ref (xad (fX K) 18 0)), some (.int iv), none, none, none] []) : Go K cells slots s_ 2098 [some (.ref b), some (.ref (xad (fX K) 14 0)), some (.ref (xad (fX K) 15 0)), some (.ref (xad (fX K) 17 0)), some (.ref (xad (fX K) 18 0)), some (.int iv), none, none, none] [] := by
  unfold wC_43 at h
  refine g_aload_n (np := 2099) B.1 dL_law_2098 rfl rfl ?_
  refine g_callL (np := 2102) B 14 (by decide) rfl rfl rfl (n := 0) (As := []) (oX12_shelfLength B.1.tr  _ _ _ h) b_585 b_582 b_583 b_584 b_70 (by decide +kernel) rfl (Nat.le_of_ble_eq_true rfl) (Nat.le_of_ble_eq_true rfl) (Nat.le_of_ble_eq_true rfl) dL_law_2099 (by omega) (by omega) rfl (fun r1 s1 hr => ?_)
  obtain ⟨r1, rfl, h⟩ := hr
  show Go K _ _ s1 2102 [some (.ref b), some (.ref (xad (fX K) 14 0)), some (.ref (xad (fX K) 15 0)), some (.ref (xad (fX K) 17 0)), some (.ref (xad (fX K) 18 0)), some (.int iv), none, none, none] (.int r1 :: [])
  refine g_aload_n (np := 2103) B.1 dL_law_2102 rfl rfl ?_
  refine g_callL (np := 2106) B 15 (by decide) rfl rfl rfl (n := 0) (As := []) (oX13_shelfLength B.1.tr  _ _ _ h) b_2123 b_2120 b_2121 b_2122 b_85 (by decide +kernel) rfl (Nat.le_of_ble_eq_true rfl) (Nat.le_of_ble_eq_true rfl) (Nat.le_of_ble_eq_true rfl) dL_law_2103 (by omega) (by omega) rfl (fun r2 s2 hr => ?_)
  obtain ⟨r2, rfl, h⟩ := hr
  show Go K _ _ s2 2106 [some (.ref b), some (.ref (xad (fX K) 14 0)), some (.ref (xad (fX K) 15 0)), some (.ref (xad (fX K) 17 0)), some (.ref (xad (fX K) 18 0)), some (.int iv), none, none, none] (.int r2 :: .int r1 :: [])
  obtain ⟨he, h⟩ := h
  refine g_icmp_eq (np := 2109) (tgt := 2684) B.1 dL_law_2106 (by decide) rfl (fun _ => ?_) (fun q => absurd he q)
  exact Go.widen (by omega) (by omega) (kk _ h)
def wC_44 (s_ : Mem) (Q : Mem → Prop) : Prop := wX12_shelfLengthByAccounts  s_ (fun (r1 : Int32) (s1 : Mem) => wX13_shelfLengthByAccounts  s1 (fun (r2 : Int32) (s2 : Mem) => r1 = r2 ∧ Q s2) (fun _ _ => False)) (fun _ _ => False)
set_option maxRecDepth 20000 in
set_option maxHeartbeats 4000000 in
theorem oC_44 {K : Fr} {b L : Nat} {xs : Nat → Int32} (B : BL K b L xs) {cells slots : Nat} {iv : Int32} {s_ : Mem} {Q : Mem → Prop} (h : wC_44  s_ Q) (hc : cells + 32 ≤ 603072) (hs : slots + 9000 ≤ 7202922) (kk : ∀ σ, Q σ → Go K (cells + 32) (slots + 9000) σ 2684 [some (.ref b), some (.ref (xad (fX K) 14 0)), some (.ref (xad (fX K) 15 0)), some (.ref (xad (fX K) 17 0)), some (.ref (xad (fX K) 18 0)), some (.int iv), none, none, none] []) : Go K cells slots s_ 2111 [some (.ref b), some (.ref (xad (fX K) 14 0)), some (.ref (xad (fX K) 15 0)), some (.ref (xad (fX K) 17 0)), some (.ref (xad (fX K) 18 0)), some (.int iv), none, none, none] [] := by
  unfold wC_44 at h
  refine g_aload_n (np := 2112) B.1 dL_law_2111 rfl rfl ?_
  refine g_callL (np := 2115) B 14 (by decide) rfl rfl rfl (n := 0) (As := []) (oX12_shelfLengthByAccounts B.1.tr  _ _ _ h) b_593 b_590 b_591 b_592 b_70 (by decide +kernel) rfl (Nat.le_of_ble_eq_true rfl) (Nat.le_of_ble_eq_true rfl) (Nat.le_of_ble_eq_true rfl) dL_law_2112 (by omega) (by omega) rfl (fun r1 s1 hr => ?_)
  obtain ⟨r1, rfl, h⟩ := hr
  show Go K _ _ s1 2115 [some (.ref b), some (.ref (xad (fX K) 14 0)), some (.ref (xad (fX K) 15 0)), some (.ref (xad (fX K) 17 0)), some (.ref (xad (fX K) 18 0)), some (.int iv), none, none, none] (.int r1 :: [])
  refine g_aload_n (np := 2116) B.1 dL_law_2115 rfl rfl ?_
  refine g_callL (np := 2119) B 15 (by decide) rfl rfl rfl (n := 0) (As := []) (oX13_shelfLengthByAccounts B.1.tr  _ _ _ h) b_2131 b_2128 b_2129 b_2130 b_85 (by decide +kernel) rfl (Nat.le_of_ble_eq_true rfl) (Nat.le_of_ble_eq_true rfl) (Nat.le_of_ble_eq_true rfl) dL_law_2116 (by omega) (by omega) rfl (fun r2 s2 hr => ?_)
  obtain ⟨r2, rfl, h⟩ := hr
  show Go K _ _ s2 2119 [some (.ref b), some (.ref (xad (fX K) 14 0)), some (.ref (xad (fX K) 15 0)), some (.ref (xad (fX K) 17 0)), some (.ref (xad (fX K) 18 0)), some (.int iv), none, none, none] (.int r2 :: .int r1 :: [])
  obtain ⟨he, h⟩ := h
  refine g_icmp_eq (np := 2122) (tgt := 2684) B.1 dL_law_2119 (by decide) rfl (fun _ => ?_) (fun q => absurd he q)
  exact Go.widen (by omega) (by omega) (kk _ h)
def wC_45 (s_ : Mem) (Q : Mem → Prop) : Prop := wL_meanLength  s_ (fun (k : Int32) (s0 : Mem) => wX13_meanLength  s0 (fun (bb : UInt64) (s1 : Mem) => wX13_thrown  s1 (fun (t : Int32) (s2 : Mem) => t = k ∧ (k = 0 → Op.cmpValue (FP.dcmp (rdD s2) bb) .l = 0) ∧ Q s2) (fun _ _ => False)) (fun _ _ => False))
set_option maxRecDepth 20000 in
set_option maxHeartbeats 4000000 in
theorem oC_45 {K : Fr} {b L : Nat} {xs : Nat → Int32} (B : BL K b L xs) {cells slots : Nat} {iv : Int32} {s_ : Mem} {Q : Mem → Prop} (h : wC_45  s_ Q) (hc : cells + 32 ≤ 603072) (hs : slots + 9000 ≤ 7202922) (kk : ∀ σ, Q σ → Go K (cells + 32) (slots + 9000) σ 2684 [some (.ref b), some (.ref (xad (fX K) 14 0)), some (.ref (xad (fX K) 15 0)), some (.ref (xad (fX K) 17 0)), some (.ref (xad (fX K) 18 0)), some (.int iv), none, none, none] []) : Go K cells slots s_ 2124 [some (.ref b), some (.ref (xad (fX K) 14 0)), some (.ref (xad (fX K) 15 0)), some (.ref (xad (fX K) 17 0)), some (.ref (xad (fX K) 18 0)), some (.int iv), none, none, none] [] := by
  unfold wC_45 at h
  refine g_aload_n (np := 2125) B.1 dL_law_2124 rfl rfl ?_
  refine g_aload (np := 2127) B.1 dL_law_2125 rfl rfl ?_
  refine g_callW (np := 2130) B (n := 2) (As := [.ref (xad (fX K) 14 0), .ref (xad (fX K) 18 0)]) (oL_meanLength B.1.tr  _ _ h) b_1536 b_1534 b_1535 b_69 (by decide +kernel) rfl (Nat.le_of_ble_eq_true rfl) (Nat.le_of_ble_eq_true rfl) (Nat.le_of_ble_eq_true rfl) dL_law_2127 (by omega) (by omega) rfl (fun r0 s0 hr => ?_)
  obtain ⟨k, rfl, h⟩ := hr
  show Go K _ _ s0 2130 [some (.ref b), some (.ref (xad (fX K) 14 0)), some (.ref (xad (fX K) 15 0)), some (.ref (xad (fX K) 17 0)), some (.ref (xad (fX K) 18 0)), some (.int iv), none, none, none] (.int k :: [])
  refine g_istore (np := 2132) (lv' := [some (.ref b), some (.ref (xad (fX K) 14 0)), some (.ref (xad (fX K) 15 0)), some (.ref (xad (fX K) 17 0)), some (.ref (xad (fX K) 18 0)), some (.int iv), some (.int k), none, none]) B.1 dL_law_2130 (by decide) rfl rfl rfl ?_
  refine g_aload_n (np := 2133) B.1 dL_law_2132 rfl rfl ?_
  refine g_callL (np := 2136) B 15 (by decide) rfl rfl rfl (n := 0) (As := []) (oX13_meanLength B.1.tr  _ _ _ h) b_2135 b_2132 b_2133 b_2134 b_85 (by decide +kernel) rfl (Nat.le_of_ble_eq_true rfl) (Nat.le_of_ble_eq_true rfl) (Nat.le_of_ble_eq_true rfl) dL_law_2133 (by omega) (by omega) rfl (fun r1 s1 hr => ?_)
  obtain ⟨bb, rfl, h⟩ := hr
  show Go K _ _ s1 2136 [some (.ref b), some (.ref (xad (fX K) 14 0)), some (.ref (xad (fX K) 15 0)), some (.ref (xad (fX K) 17 0)), some (.ref (xad (fX K) 18 0)), some (.int iv), some (.int k), none, none] (.double bb :: [])
  refine g_dstore (np := 2138) (lv' := [some (.ref b), some (.ref (xad (fX K) 14 0)), some (.ref (xad (fX K) 15 0)), some (.ref (xad (fX K) 17 0)), some (.ref (xad (fX K) 18 0)), some (.int iv), some (.int k), some (.double bb), none]) B.1 dL_law_2136 (by decide) rfl rfl rfl ?_
  refine g_aload_n (np := 2139) B.1 dL_law_2138 rfl rfl ?_
  refine g_callL (np := 2142) B 15 (by decide) rfl rfl rfl (n := 0) (As := []) (oX13_thrown B.1.tr  _ _ _ h) b_1814 b_1811 b_1812 b_1813 b_85 (by decide +kernel) rfl (Nat.le_of_ble_eq_true rfl) (Nat.le_of_ble_eq_true rfl) (Nat.le_of_ble_eq_true rfl) dL_law_2139 (by omega) (by omega) rfl (fun r2 s2 hr => ?_)
  obtain ⟨t, rfl, h⟩ := hr
  show Go K _ _ s2 2142 [some (.ref b), some (.ref (xad (fX K) 14 0)), some (.ref (xad (fX K) 15 0)), some (.ref (xad (fX K) 17 0)), some (.ref (xad (fX K) 18 0)), some (.int iv), some (.int k), some (.double bb), none] (.int t :: [])
  obtain ⟨hk, hv, h⟩ := h
  refine g_iload (np := 2144) B.1 dL_law_2142 rfl rfl ?_
  refine g_icmp_eq (np := 2147) (tgt := 2149) B.1 dL_law_2144 (by decide) rfl (fun _ => ?_) (fun q => absurd hk q)
  refine g_iload (np := 2151) B.1 dL_law_2149 rfl rfl ?_
  have key : Go K (cells + 1) (slots + 6) s2 2186 [some (.ref b), some (.ref (xad (fX K) 14 0)), some (.ref (xad (fX K) 15 0)), some (.ref (xad (fX K) 17 0)), some (.ref (xad (fX K) 18 0)), some (.int iv), some (.int k), some (.double bb), none] [] := by
    refine g_goto (tgt := 2684) B.1 dL_law_2186 (by decide) ?_
    refine Go.lle [some (.ref b), some (.ref (xad (fX K) 14 0)), some (.ref (xad (fX K) 15 0)), some (.ref (xad (fX K) 17 0)), some (.ref (xad (fX K) 18 0)), some (.int iv), none, none, none] (by simp [lle]) ?_
    exact Go.widen (by omega) (by omega) (kk _ h)
  refine g_if_ne (np := 2154) (tgt := 2186) B.1 dL_law_2151 (by decide) rfl (fun _ => Go.widen (by omega) (by omega) key) (fun q => ?_)
  replace hv := hv q
  refine g_aload (np := 2156) B.1 dL_law_2154 rfl rfl ?_
  refine g_iconst (v := 0) (np := 2157) B.1 dL_law_2156 (by decide) rfl ?_
  refine g_dald (np := 2158) B.1 dL_law_2157 rfl ?_
  refine g_dload (np := 2160) B.1 dL_law_2158 rfl rfl ?_
  refine g_dcmp (np := 2161) B.1 dL_law_2160 rfl ?_
  refine g_if_eq (np := 2164) (tgt := 2186) B.1 dL_law_2161 (by decide) rfl (fun _ => Go.widen (by omega) (by omega) key) (fun q => absurd hv q)
def wC_46 (s_ : Mem) (Q : Mem → Prop) : Prop := wL_longShare  s_ (fun (k : Int32) (s0 : Mem) => wX13_longShare  s0 (fun (bb : UInt32) (s1 : Mem) => wX13_thrown  s1 (fun (t : Int32) (s2 : Mem) => t = k ∧ (k = 0 → (vf_n64 (FP.f2d bb) ∧ Op.cmpValue (FP.dcmp (rdD s2) (FP.f2d bb)) .l = 0)) ∧ Q s2) (fun _ _ => False)) (fun _ _ => False))
set_option maxRecDepth 20000 in
set_option maxHeartbeats 4000000 in
theorem oC_46 {K : Fr} {b L : Nat} {xs : Nat → Int32} (B : BL K b L xs) {cells slots : Nat} {iv : Int32} {s_ : Mem} {Q : Mem → Prop} (h : wC_46  s_ Q) (hc : cells + 32 ≤ 603072) (hs : slots + 9000 ≤ 7202922) (kk : ∀ σ, Q σ → Go K (cells + 32) (slots + 9000) σ 2684 [some (.ref b), some (.ref (xad (fX K) 14 0)), some (.ref (xad (fX K) 15 0)), some (.ref (xad (fX K) 17 0)), some (.ref (xad (fX K) 18 0)), some (.int iv), none, none, none] []) : Go K cells slots s_ 2189 [some (.ref b), some (.ref (xad (fX K) 14 0)), some (.ref (xad (fX K) 15 0)), some (.ref (xad (fX K) 17 0)), some (.ref (xad (fX K) 18 0)), some (.int iv), none, none, none] [] := by
  unfold wC_46 at h
  refine g_aload_n (np := 2190) B.1 dL_law_2189 rfl rfl ?_
  refine g_aload (np := 2192) B.1 dL_law_2190 rfl rfl ?_
  refine g_callW (np := 2195) B (n := 2) (As := [.ref (xad (fX K) 14 0), .ref (xad (fX K) 18 0)]) (oL_longShare B.1.tr  _ _ h) b_1563 b_1561 b_1562 b_69 (by decide +kernel) rfl (Nat.le_of_ble_eq_true rfl) (Nat.le_of_ble_eq_true rfl) (Nat.le_of_ble_eq_true rfl) dL_law_2192 (by omega) (by omega) rfl (fun r0 s0 hr => ?_)
  obtain ⟨k, rfl, h⟩ := hr
  show Go K _ _ s0 2195 [some (.ref b), some (.ref (xad (fX K) 14 0)), some (.ref (xad (fX K) 15 0)), some (.ref (xad (fX K) 17 0)), some (.ref (xad (fX K) 18 0)), some (.int iv), none, none, none] (.int k :: [])
  refine g_istore (np := 2197) (lv' := [some (.ref b), some (.ref (xad (fX K) 14 0)), some (.ref (xad (fX K) 15 0)), some (.ref (xad (fX K) 17 0)), some (.ref (xad (fX K) 18 0)), some (.int iv), some (.int k), none, none]) B.1 dL_law_2195 (by decide) rfl rfl rfl ?_
  refine g_aload_n (np := 2198) B.1 dL_law_2197 rfl rfl ?_
  refine g_callL (np := 2201) B 15 (by decide) rfl rfl rfl (n := 0) (As := []) (oX13_longShare B.1.tr  _ _ _ h) b_2139 b_2136 b_2137 b_2138 b_85 (by decide +kernel) rfl (Nat.le_of_ble_eq_true rfl) (Nat.le_of_ble_eq_true rfl) (Nat.le_of_ble_eq_true rfl) dL_law_2198 (by omega) (by omega) rfl (fun r1 s1 hr => ?_)
  obtain ⟨bb, rfl, h⟩ := hr
  show Go K _ _ s1 2201 [some (.ref b), some (.ref (xad (fX K) 14 0)), some (.ref (xad (fX K) 15 0)), some (.ref (xad (fX K) 17 0)), some (.ref (xad (fX K) 18 0)), some (.int iv), some (.int k), none, none] (.float bb :: [])
  refine g_fstore (np := 2203) (lv' := [some (.ref b), some (.ref (xad (fX K) 14 0)), some (.ref (xad (fX K) 15 0)), some (.ref (xad (fX K) 17 0)), some (.ref (xad (fX K) 18 0)), some (.int iv), some (.int k), some (.float bb), none]) B.1 dL_law_2201 (by decide) rfl rfl rfl ?_
  refine g_aload_n (np := 2204) B.1 dL_law_2203 rfl rfl ?_
  refine g_callL (np := 2207) B 15 (by decide) rfl rfl rfl (n := 0) (As := []) (oX13_thrown B.1.tr  _ _ _ h) b_1814 b_1811 b_1812 b_1813 b_85 (by decide +kernel) rfl (Nat.le_of_ble_eq_true rfl) (Nat.le_of_ble_eq_true rfl) (Nat.le_of_ble_eq_true rfl) dL_law_2204 (by omega) (by omega) rfl (fun r2 s2 hr => ?_)
  obtain ⟨t, rfl, h⟩ := hr
  show Go K _ _ s2 2207 [some (.ref b), some (.ref (xad (fX K) 14 0)), some (.ref (xad (fX K) 15 0)), some (.ref (xad (fX K) 17 0)), some (.ref (xad (fX K) 18 0)), some (.int iv), some (.int k), some (.float bb), none] (.int t :: [])
  obtain ⟨hk, hv, h⟩ := h
  refine g_iload (np := 2209) B.1 dL_law_2207 rfl rfl ?_
  refine g_icmp_eq (np := 2212) (tgt := 2214) B.1 dL_law_2209 (by decide) rfl (fun _ => ?_) (fun q => absurd hk q)
  refine g_iload (np := 2216) B.1 dL_law_2214 rfl rfl ?_
  have key : Go K (cells + 1) (slots + 6) s2 2252 [some (.ref b), some (.ref (xad (fX K) 14 0)), some (.ref (xad (fX K) 15 0)), some (.ref (xad (fX K) 17 0)), some (.ref (xad (fX K) 18 0)), some (.int iv), some (.int k), some (.float bb), none] [] := by
    refine g_goto (tgt := 2684) B.1 dL_law_2252 (by decide) ?_
    refine Go.lle [some (.ref b), some (.ref (xad (fX K) 14 0)), some (.ref (xad (fX K) 15 0)), some (.ref (xad (fX K) 17 0)), some (.ref (xad (fX K) 18 0)), some (.int iv), none, none, none] (by simp [lle]) ?_
    exact Go.widen (by omega) (by omega) (kk _ h)
  refine g_if_ne (np := 2219) (tgt := 2252) B.1 dL_law_2216 (by decide) rfl (fun _ => Go.widen (by omega) (by omega) key) (fun q => ?_)
  replace hv := hv q
  refine g_aload (np := 2221) B.1 dL_law_2219 rfl rfl ?_
  refine g_iconst (v := 0) (np := 2222) B.1 dL_law_2221 (by decide) rfl ?_
  refine g_dald (np := 2223) B.1 dL_law_2222 rfl ?_
  refine g_fload (np := 2225) B.1 dL_law_2223 rfl rfl ?_
  refine g_f2d (np := 2226) B.1 hv.1 dL_law_2225 rfl ?_
  refine g_dcmp (np := 2227) B.1 dL_law_2226 rfl ?_
  refine g_if_eq (np := 2230) (tgt := 2252) B.1 dL_law_2227 (by decide) rfl (fun _ => Go.widen (by omega) (by omega) key) (fun q => absurd hv.2 q)
def wC_47 (s_ : Mem) (Q : Mem → Prop) : Prop := wX12_isConsistent  s_ (fun (r1 : Int32) (s1 : Mem) => wX13_isConsistent  s1 (fun (r2 : Int32) (s2 : Mem) => r1 = r2 ∧ Q s2) (fun _ _ => False)) (fun _ _ => False)
set_option maxRecDepth 20000 in
set_option maxHeartbeats 4000000 in
theorem oC_47 {K : Fr} {b L : Nat} {xs : Nat → Int32} (B : BL K b L xs) {cells slots : Nat} {iv : Int32} {s_ : Mem} {Q : Mem → Prop} (h : wC_47  s_ Q) (hc : cells + 32 ≤ 603072) (hs : slots + 9000 ≤ 7202922) (kk : ∀ σ, Q σ → Go K (cells + 32) (slots + 9000) σ 2684 [some (.ref b), some (.ref (xad (fX K) 14 0)), some (.ref (xad (fX K) 15 0)), some (.ref (xad (fX K) 17 0)), some (.ref (xad (fX K) 18 0)), some (.int iv), none, none, none] []) : Go K cells slots s_ 2255 [some (.ref b), some (.ref (xad (fX K) 14 0)), some (.ref (xad (fX K) 15 0)), some (.ref (xad (fX K) 17 0)), some (.ref (xad (fX K) 18 0)), some (.int iv), none, none, none] [] := by
  unfold wC_47 at h
  refine g_aload_n (np := 2256) B.1 dL_law_2255 rfl rfl ?_
  refine g_callL (np := 2259) B 14 (by decide) rfl rfl rfl (n := 0) (As := []) (oX12_isConsistent B.1.tr  _ _ _ h) b_601 b_598 b_599 b_600 b_70 (by decide +kernel) rfl (Nat.le_of_ble_eq_true rfl) (Nat.le_of_ble_eq_true rfl) (Nat.le_of_ble_eq_true rfl) dL_law_2256 (by omega) (by omega) rfl (fun r1 s1 hr => ?_)
  obtain ⟨r1, rfl, h⟩ := hr
  show Go K _ _ s1 2259 [some (.ref b), some (.ref (xad (fX K) 14 0)), some (.ref (xad (fX K) 15 0)), some (.ref (xad (fX K) 17 0)), some (.ref (xad (fX K) 18 0)), some (.int iv), none, none, none] (.int r1 :: [])
  refine g_aload_n (np := 2260) B.1 dL_law_2259 rfl rfl ?_
  refine g_callL (np := 2263) B 15 (by decide) rfl rfl rfl (n := 0) (As := []) (oX13_isConsistent B.1.tr  _ _ _ h) b_2143 b_2140 b_2141 b_2142 b_85 (by decide +kernel) rfl (Nat.le_of_ble_eq_true rfl) (Nat.le_of_ble_eq_true rfl) (Nat.le_of_ble_eq_true rfl) dL_law_2260 (by omega) (by omega) rfl (fun r2 s2 hr => ?_)
  obtain ⟨r2, rfl, h⟩ := hr
  show Go K _ _ s2 2263 [some (.ref b), some (.ref (xad (fX K) 14 0)), some (.ref (xad (fX K) 15 0)), some (.ref (xad (fX K) 17 0)), some (.ref (xad (fX K) 18 0)), some (.int iv), none, none, none] (.int r2 :: .int r1 :: [])
  obtain ⟨he, h⟩ := h
  refine g_icmp_eq (np := 2266) (tgt := 2684) B.1 dL_law_2263 (by decide) rfl (fun _ => ?_) (fun q => absurd he q)
  exact Go.widen (by omega) (by omega) (kk _ h)
def wC_48 (s_ : Mem) (Q : Mem → Prop) : Prop := wX12_renderShelf  s_ (fun (r1 : Int32) (s1 : Mem) => wX13_renderShelf  s1 (fun (r2 : Int32) (s2 : Mem) => r1 = r2 ∧ Q s2) (fun _ _ => False)) (fun _ _ => False)
set_option maxRecDepth 20000 in
set_option maxHeartbeats 4000000 in
theorem oC_48 {K : Fr} {b L : Nat} {xs : Nat → Int32} (B : BL K b L xs) {cells slots : Nat} {iv : Int32} {s_ : Mem} {Q : Mem → Prop} (h : wC_48  s_ Q) (hc : cells + 32 ≤ 603072) (hs : slots + 9000 ≤ 7202922) (kk : ∀ σ, Q σ → Go K (cells + 32) (slots + 9000) σ 2684 [some (.ref b), some (.ref (xad (fX K) 14 0)), some (.ref (xad (fX K) 15 0)), some (.ref (xad (fX K) 17 0)), some (.ref (xad (fX K) 18 0)), some (.int iv), none, none, none] []) : Go K cells slots s_ 2268 [some (.ref b), some (.ref (xad (fX K) 14 0)), some (.ref (xad (fX K) 15 0)), some (.ref (xad (fX K) 17 0)), some (.ref (xad (fX K) 18 0)), some (.int iv), none, none, none] [] := by
  unfold wC_48 at h
  refine g_aload_n (np := 2269) B.1 dL_law_2268 rfl rfl ?_
  refine g_callL (np := 2272) B 14 (by decide) rfl rfl rfl (n := 0) (As := []) (oX12_renderShelf B.1.tr  _ _ _ h) b_635 b_632 b_633 b_634 b_70 (by decide +kernel) rfl (Nat.le_of_ble_eq_true rfl) (Nat.le_of_ble_eq_true rfl) (Nat.le_of_ble_eq_true rfl) dL_law_2269 (by omega) (by omega) rfl (fun r1 s1 hr => ?_)
  obtain ⟨r1, rfl, h⟩ := hr
  show Go K _ _ s1 2272 [some (.ref b), some (.ref (xad (fX K) 14 0)), some (.ref (xad (fX K) 15 0)), some (.ref (xad (fX K) 17 0)), some (.ref (xad (fX K) 18 0)), some (.int iv), none, none, none] (.int r1 :: [])
  refine g_aload_n (np := 2273) B.1 dL_law_2272 rfl rfl ?_
  refine g_callL (np := 2276) B 15 (by decide) rfl rfl rfl (n := 0) (As := []) (oX13_renderShelf B.1.tr  _ _ _ h) b_2147 b_2144 b_2145 b_2146 b_85 (by decide +kernel) rfl (Nat.le_of_ble_eq_true rfl) (Nat.le_of_ble_eq_true rfl) (Nat.le_of_ble_eq_true rfl) dL_law_2273 (by omega) (by omega) rfl (fun r2 s2 hr => ?_)
  obtain ⟨r2, rfl, h⟩ := hr
  show Go K _ _ s2 2276 [some (.ref b), some (.ref (xad (fX K) 14 0)), some (.ref (xad (fX K) 15 0)), some (.ref (xad (fX K) 17 0)), some (.ref (xad (fX K) 18 0)), some (.int iv), none, none, none] (.int r2 :: .int r1 :: [])
  obtain ⟨he, h⟩ := h
  refine g_icmp_eq (np := 2279) (tgt := 2684) B.1 dL_law_2276 (by decide) rfl (fun _ => ?_) (fun q => absurd he q)
  exact Go.widen (by omega) (by omega) (kk _ h)
def wC_49 (a1 : Int32) (s_ : Mem) (Q : Mem → Prop) : Prop := wL_renderOrder a1 s_ (fun (k : Int32) (s0 : Mem) => wX13_renderOrder a1 s0 (fun (bb : Int32) (s1 : Mem) => wX13_thrown  s1 (fun (t : Int32) (s2 : Mem) => t = k ∧ (k = 0 → rdL s2 = bb.toInt64) ∧ Q s2) (fun _ _ => False)) (fun _ _ => False))
set_option maxRecDepth 20000 in
set_option maxHeartbeats 4000000 in
theorem oC_49 {K : Fr} {b L : Nat} {xs : Nat → Int32} (B : BL K b L xs) {cells slots : Nat} {iv : Int32} {a1 : Int32} (h1 : vp_in (iv + 1) L) (e1 : xs (iv + 1).toNatClampNeg = a1) {s_ : Mem} {Q : Mem → Prop} (h : wC_49 a1 s_ Q) (hc : cells + 32 ≤ 603072) (hs : slots + 9000 ≤ 7202922) (kk : ∀ σ, Q σ → Go K (cells + 32) (slots + 9000) σ 2684 [some (.ref b), some (.ref (xad (fX K) 14 0)), some (.ref (xad (fX K) 15 0)), some (.ref (xad (fX K) 17 0)), some (.ref (xad (fX K) 18 0)), some (.int iv), none, none, none] []) : Go K cells slots s_ 2281 [some (.ref b), some (.ref (xad (fX K) 14 0)), some (.ref (xad (fX K) 15 0)), some (.ref (xad (fX K) 17 0)), some (.ref (xad (fX K) 18 0)), some (.int iv), none, none, none] [] := by
  unfold wC_49 at h
  refine g_aload_n (np := 2282) B.1 dL_law_2281 rfl rfl ?_
  refine g_aload_n (np := 2283) B.1 dL_law_2282 rfl rfl ?_
  refine g_iload (np := 2285) B.1 dL_law_2283 rfl rfl ?_
  refine g_iconst (v := 1) (np := 2286) B.1 dL_law_2285 (by decide) rfl ?_
  refine g_iadd (np := 2287) B.1 dL_law_2286 rfl ?_
  refine g_sld (np := 2288) B h1 dL_law_2287 rfl ?_
  rw [e1]
  refine g_aload_n (np := 2289) B.1 dL_law_2288 rfl rfl ?_
  refine g_callW (np := 2292) B (n := 3) (As := [.ref (xad (fX K) 14 0), .int a1, .ref (xad (fX K) 17 0)]) (oL_renderOrder B.1.tr a1 _ _ h) b_1574 b_1572 b_1573 b_69 (by decide +kernel) rfl (Nat.le_of_ble_eq_true rfl) (Nat.le_of_ble_eq_true rfl) (Nat.le_of_ble_eq_true rfl) dL_law_2289 (by omega) (by omega) rfl (fun r0 s0 hr => ?_)
  obtain ⟨k, rfl, h⟩ := hr
  show Go K _ _ s0 2292 [some (.ref b), some (.ref (xad (fX K) 14 0)), some (.ref (xad (fX K) 15 0)), some (.ref (xad (fX K) 17 0)), some (.ref (xad (fX K) 18 0)), some (.int iv), none, none, none] (.int k :: [])
  refine g_istore (np := 2294) (lv' := [some (.ref b), some (.ref (xad (fX K) 14 0)), some (.ref (xad (fX K) 15 0)), some (.ref (xad (fX K) 17 0)), some (.ref (xad (fX K) 18 0)), some (.int iv), some (.int k), none, none]) B.1 dL_law_2292 (by decide) rfl rfl rfl ?_
  refine g_aload_n (np := 2295) B.1 dL_law_2294 rfl rfl ?_
  refine g_aload_n (np := 2296) B.1 dL_law_2295 rfl rfl ?_
  refine g_iload (np := 2298) B.1 dL_law_2296 rfl rfl ?_
  refine g_iconst (v := 1) (np := 2299) B.1 dL_law_2298 (by decide) rfl ?_
  refine g_iadd (np := 2300) B.1 dL_law_2299 rfl ?_
  refine g_sld (np := 2301) B h1 dL_law_2300 rfl ?_
  rw [e1]
  refine g_callL (np := 2304) B 15 (by decide) rfl rfl rfl (n := 1) (As := [.int a1]) (oX13_renderOrder B.1.tr a1 _ _ _ h) b_2159 b_2156 b_2157 b_2158 b_85 (by decide +kernel) rfl (Nat.le_of_ble_eq_true rfl) (Nat.le_of_ble_eq_true rfl) (Nat.le_of_ble_eq_true rfl) dL_law_2301 (by omega) (by omega) rfl (fun r1 s1 hr => ?_)
  obtain ⟨bb, rfl, h⟩ := hr
  show Go K _ _ s1 2304 [some (.ref b), some (.ref (xad (fX K) 14 0)), some (.ref (xad (fX K) 15 0)), some (.ref (xad (fX K) 17 0)), some (.ref (xad (fX K) 18 0)), some (.int iv), some (.int k), none, none] (.int bb :: [])
  refine g_istore (np := 2306) (lv' := [some (.ref b), some (.ref (xad (fX K) 14 0)), some (.ref (xad (fX K) 15 0)), some (.ref (xad (fX K) 17 0)), some (.ref (xad (fX K) 18 0)), some (.int iv), some (.int k), some (.int bb), none]) B.1 dL_law_2304 (by decide) rfl rfl rfl ?_
  refine g_aload_n (np := 2307) B.1 dL_law_2306 rfl rfl ?_
  refine g_callL (np := 2310) B 15 (by decide) rfl rfl rfl (n := 0) (As := []) (oX13_thrown B.1.tr  _ _ _ h) b_1814 b_1811 b_1812 b_1813 b_85 (by decide +kernel) rfl (Nat.le_of_ble_eq_true rfl) (Nat.le_of_ble_eq_true rfl) (Nat.le_of_ble_eq_true rfl) dL_law_2307 (by omega) (by omega) rfl (fun r2 s2 hr => ?_)
  obtain ⟨t, rfl, h⟩ := hr
  show Go K _ _ s2 2310 [some (.ref b), some (.ref (xad (fX K) 14 0)), some (.ref (xad (fX K) 15 0)), some (.ref (xad (fX K) 17 0)), some (.ref (xad (fX K) 18 0)), some (.int iv), some (.int k), some (.int bb), none] (.int t :: [])
  obtain ⟨hk, hv, h⟩ := h
  refine g_iload (np := 2312) B.1 dL_law_2310 rfl rfl ?_
  refine g_icmp_eq (np := 2315) (tgt := 2317) B.1 dL_law_2312 (by decide) rfl (fun _ => ?_) (fun q => absurd hk q)
  refine g_iload (np := 2319) B.1 dL_law_2317 rfl rfl ?_
  have key : Go K (cells + 8) (slots + 2120) s2 2334 [some (.ref b), some (.ref (xad (fX K) 14 0)), some (.ref (xad (fX K) 15 0)), some (.ref (xad (fX K) 17 0)), some (.ref (xad (fX K) 18 0)), some (.int iv), some (.int k), some (.int bb), none] [] := by
    refine g_goto (tgt := 2684) B.1 dL_law_2334 (by decide) ?_
    refine Go.lle [some (.ref b), some (.ref (xad (fX K) 14 0)), some (.ref (xad (fX K) 15 0)), some (.ref (xad (fX K) 17 0)), some (.ref (xad (fX K) 18 0)), some (.int iv), none, none, none] (by simp [lle]) ?_
    exact Go.widen (by omega) (by omega) (kk _ h)
  refine g_if_ne (np := 2322) (tgt := 2334) B.1 dL_law_2319 (by decide) rfl (fun _ => Go.widen (by omega) (by omega) key) (fun q => ?_)
  replace hv := hv q
  refine g_aload_n (np := 2323) B.1 dL_law_2322 rfl rfl ?_
  refine g_iconst (v := 0) (np := 2324) B.1 dL_law_2323 (by decide) rfl ?_
  refine g_lald (np := 2325) B.1 dL_law_2324 rfl ?_
  refine g_iload (np := 2327) B.1 dL_law_2325 rfl rfl ?_
  refine g_i2l (np := 2328) B.1 dL_law_2327 rfl ?_
  rw [hv]
  refine g_lcmp (np := 2329) B.1 dL_law_2328 rfl ?_
  rw [lcmp_self]
  refine g_if_eq (np := 2332) (tgt := 2334) B.1 dL_law_2329 (by decide) rfl (fun _ => Go.widen (by omega) (by omega) key) (fun q => absurd rfl q)
def wC_50 (a1 : Int32) (s_ : Mem) (Q : Mem → Prop) : Prop := wL_outputAt a1 s_ (fun (k : Int32) (s0 : Mem) => wX13_outputAt a1 s0 (fun (bb : Int32) (s1 : Mem) => wX13_thrown  s1 (fun (t : Int32) (s2 : Mem) => t = k ∧ (k = 0 → rdL s2 = bb.toInt64) ∧ Q s2) (fun _ _ => False)) (fun _ _ => False))
set_option maxRecDepth 20000 in
set_option maxHeartbeats 4000000 in
theorem oC_50 {K : Fr} {b L : Nat} {xs : Nat → Int32} (B : BL K b L xs) {cells slots : Nat} {iv : Int32} {a1 : Int32} (h1 : vp_in (iv + 1) L) (e1 : xs (iv + 1).toNatClampNeg = a1) {s_ : Mem} {Q : Mem → Prop} (h : wC_50 a1 s_ Q) (hc : cells + 32 ≤ 603072) (hs : slots + 9000 ≤ 7202922) (kk : ∀ σ, Q σ → Go K (cells + 32) (slots + 9000) σ 2684 [some (.ref b), some (.ref (xad (fX K) 14 0)), some (.ref (xad (fX K) 15 0)), some (.ref (xad (fX K) 17 0)), some (.ref (xad (fX K) 18 0)), some (.int iv), none, none, none] []) : Go K cells slots s_ 2337 [some (.ref b), some (.ref (xad (fX K) 14 0)), some (.ref (xad (fX K) 15 0)), some (.ref (xad (fX K) 17 0)), some (.ref (xad (fX K) 18 0)), some (.int iv), none, none, none] [] := by
  unfold wC_50 at h
  refine g_aload_n (np := 2338) B.1 dL_law_2337 rfl rfl ?_
  refine g_aload_n (np := 2339) B.1 dL_law_2338 rfl rfl ?_
  refine g_iload (np := 2341) B.1 dL_law_2339 rfl rfl ?_
  refine g_iconst (v := 1) (np := 2342) B.1 dL_law_2341 (by decide) rfl ?_
  refine g_iadd (np := 2343) B.1 dL_law_2342 rfl ?_
  refine g_sld (np := 2344) B h1 dL_law_2343 rfl ?_
  rw [e1]
  refine g_aload_n (np := 2345) B.1 dL_law_2344 rfl rfl ?_
  refine g_callW (np := 2348) B (n := 3) (As := [.ref (xad (fX K) 14 0), .int a1, .ref (xad (fX K) 17 0)]) (oL_outputAt B.1.tr a1 _ _ h) b_1583 b_1581 b_1582 b_69 (by decide +kernel) rfl (Nat.le_of_ble_eq_true rfl) (Nat.le_of_ble_eq_true rfl) (Nat.le_of_ble_eq_true rfl) dL_law_2345 (by omega) (by omega) rfl (fun r0 s0 hr => ?_)
  obtain ⟨k, rfl, h⟩ := hr
  show Go K _ _ s0 2348 [some (.ref b), some (.ref (xad (fX K) 14 0)), some (.ref (xad (fX K) 15 0)), some (.ref (xad (fX K) 17 0)), some (.ref (xad (fX K) 18 0)), some (.int iv), none, none, none] (.int k :: [])
  refine g_istore (np := 2350) (lv' := [some (.ref b), some (.ref (xad (fX K) 14 0)), some (.ref (xad (fX K) 15 0)), some (.ref (xad (fX K) 17 0)), some (.ref (xad (fX K) 18 0)), some (.int iv), some (.int k), none, none]) B.1 dL_law_2348 (by decide) rfl rfl rfl ?_
  refine g_aload_n (np := 2351) B.1 dL_law_2350 rfl rfl ?_
  refine g_aload_n (np := 2352) B.1 dL_law_2351 rfl rfl ?_
  refine g_iload (np := 2354) B.1 dL_law_2352 rfl rfl ?_
  refine g_iconst (v := 1) (np := 2355) B.1 dL_law_2354 (by decide) rfl ?_
  refine g_iadd (np := 2356) B.1 dL_law_2355 rfl ?_
  refine g_sld (np := 2357) B h1 dL_law_2356 rfl ?_
  rw [e1]
  refine g_callL (np := 2360) B 15 (by decide) rfl rfl rfl (n := 1) (As := [.int a1]) (oX13_outputAt B.1.tr a1 _ _ _ h) b_2163 b_2160 b_2161 b_2162 b_85 (by decide +kernel) rfl (Nat.le_of_ble_eq_true rfl) (Nat.le_of_ble_eq_true rfl) (Nat.le_of_ble_eq_true rfl) dL_law_2357 (by omega) (by omega) rfl (fun r1 s1 hr => ?_)
  obtain ⟨bb, rfl, h⟩ := hr
  show Go K _ _ s1 2360 [some (.ref b), some (.ref (xad (fX K) 14 0)), some (.ref (xad (fX K) 15 0)), some (.ref (xad (fX K) 17 0)), some (.ref (xad (fX K) 18 0)), some (.int iv), some (.int k), none, none] (.int bb :: [])
  refine g_istore (np := 2362) (lv' := [some (.ref b), some (.ref (xad (fX K) 14 0)), some (.ref (xad (fX K) 15 0)), some (.ref (xad (fX K) 17 0)), some (.ref (xad (fX K) 18 0)), some (.int iv), some (.int k), some (.int bb), none]) B.1 dL_law_2360 (by decide) rfl rfl rfl ?_
  refine g_aload_n (np := 2363) B.1 dL_law_2362 rfl rfl ?_
  refine g_callL (np := 2366) B 15 (by decide) rfl rfl rfl (n := 0) (As := []) (oX13_thrown B.1.tr  _ _ _ h) b_1814 b_1811 b_1812 b_1813 b_85 (by decide +kernel) rfl (Nat.le_of_ble_eq_true rfl) (Nat.le_of_ble_eq_true rfl) (Nat.le_of_ble_eq_true rfl) dL_law_2363 (by omega) (by omega) rfl (fun r2 s2 hr => ?_)
  obtain ⟨t, rfl, h⟩ := hr
  show Go K _ _ s2 2366 [some (.ref b), some (.ref (xad (fX K) 14 0)), some (.ref (xad (fX K) 15 0)), some (.ref (xad (fX K) 17 0)), some (.ref (xad (fX K) 18 0)), some (.int iv), some (.int k), some (.int bb), none] (.int t :: [])
  obtain ⟨hk, hv, h⟩ := h
  refine g_iload (np := 2368) B.1 dL_law_2366 rfl rfl ?_
  refine g_icmp_eq (np := 2371) (tgt := 2373) B.1 dL_law_2368 (by decide) rfl (fun _ => ?_) (fun q => absurd hk q)
  refine g_iload (np := 2375) B.1 dL_law_2373 rfl rfl ?_
  have key : Go K (cells + 1) (slots + 6) s2 2390 [some (.ref b), some (.ref (xad (fX K) 14 0)), some (.ref (xad (fX K) 15 0)), some (.ref (xad (fX K) 17 0)), some (.ref (xad (fX K) 18 0)), some (.int iv), some (.int k), some (.int bb), none] [] := by
    refine g_goto (tgt := 2684) B.1 dL_law_2390 (by decide) ?_
    refine Go.lle [some (.ref b), some (.ref (xad (fX K) 14 0)), some (.ref (xad (fX K) 15 0)), some (.ref (xad (fX K) 17 0)), some (.ref (xad (fX K) 18 0)), some (.int iv), none, none, none] (by simp [lle]) ?_
    exact Go.widen (by omega) (by omega) (kk _ h)
  refine g_if_ne (np := 2378) (tgt := 2390) B.1 dL_law_2375 (by decide) rfl (fun _ => Go.widen (by omega) (by omega) key) (fun q => ?_)
  replace hv := hv q
  refine g_aload_n (np := 2379) B.1 dL_law_2378 rfl rfl ?_
  refine g_iconst (v := 0) (np := 2380) B.1 dL_law_2379 (by decide) rfl ?_
  refine g_lald (np := 2381) B.1 dL_law_2380 rfl ?_
  refine g_iload (np := 2383) B.1 dL_law_2381 rfl rfl ?_
  refine g_i2l (np := 2384) B.1 dL_law_2383 rfl ?_
  rw [hv]
  refine g_lcmp (np := 2385) B.1 dL_law_2384 rfl ?_
  rw [lcmp_self]
  refine g_if_eq (np := 2388) (tgt := 2390) B.1 dL_law_2385 (by decide) rfl (fun _ => Go.widen (by omega) (by omega) key) (fun q => absurd rfl q)
def wC_51 (a1 : Int32) (s_ : Mem) (Q : Mem → Prop) : Prop := wL_type ((a1.toUInt32 % 65536).toInt32) s_ (fun (k : Int32) (s0 : Mem) => wX13_type ((a1.toUInt32 % 65536).toInt32) s0 (fun (bb : Int32) (s1 : Mem) => wX13_thrown  s1 (fun (t : Int32) (s2 : Mem) => t = k ∧ (k = 0 → rdL s2 = bb.toInt64) ∧ Q s2) (fun _ _ => False)) (fun _ _ => False))
set_option maxRecDepth 20000 in
set_option maxHeartbeats 4000000 in
theorem oC_51 {K : Fr} {b L : Nat} {xs : Nat → Int32} (B : BL K b L xs) {cells slots : Nat} {iv : Int32} {a1 : Int32} (h1 : vp_in (iv + 1) L) (e1 : xs (iv + 1).toNatClampNeg = a1) {s_ : Mem} {Q : Mem → Prop} (h : wC_51 a1 s_ Q) (hc : cells + 32 ≤ 603072) (hs : slots + 9000 ≤ 7202922) (kk : ∀ σ, Q σ → Go K (cells + 32) (slots + 9000) σ 2684 [some (.ref b), some (.ref (xad (fX K) 14 0)), some (.ref (xad (fX K) 15 0)), some (.ref (xad (fX K) 17 0)), some (.ref (xad (fX K) 18 0)), some (.int iv), none, none, none] []) : Go K cells slots s_ 2393 [some (.ref b), some (.ref (xad (fX K) 14 0)), some (.ref (xad (fX K) 15 0)), some (.ref (xad (fX K) 17 0)), some (.ref (xad (fX K) 18 0)), some (.int iv), none, none, none] [] := by
  unfold wC_51 at h
  refine g_aload_n (np := 2394) B.1 dL_law_2393 rfl rfl ?_
  refine g_aload_n (np := 2395) B.1 dL_law_2394 rfl rfl ?_
  refine g_iload (np := 2397) B.1 dL_law_2395 rfl rfl ?_
  refine g_iconst (v := 1) (np := 2398) B.1 dL_law_2397 (by decide) rfl ?_
  refine g_iadd (np := 2399) B.1 dL_law_2398 rfl ?_
  refine g_sld (np := 2400) B h1 dL_law_2399 rfl ?_
  rw [e1]
  refine g_i2c (np := 2401) (v := (a1.toUInt32 % 65536).toInt32) B.1 dL_law_2400 rfl rfl ?_
  refine g_aload_n (np := 2402) B.1 dL_law_2401 rfl rfl ?_
  refine g_callW (np := 2405) B (n := 3) (As := [.ref (xad (fX K) 14 0), .int (a1.toUInt32 % 65536).toInt32, .ref (xad (fX K) 17 0)]) (oL_type B.1.tr ((a1.toUInt32 % 65536).toInt32) _ _ h) b_1601 b_1599 b_1600 b_69 (by decide +kernel) rfl (Nat.le_of_ble_eq_true rfl) (Nat.le_of_ble_eq_true rfl) (Nat.le_of_ble_eq_true rfl) dL_law_2402 (by omega) (by omega) rfl (fun r0 s0 hr => ?_)
  obtain ⟨k, rfl, h⟩ := hr
  show Go K _ _ s0 2405 [some (.ref b), some (.ref (xad (fX K) 14 0)), some (.ref (xad (fX K) 15 0)), some (.ref (xad (fX K) 17 0)), some (.ref (xad (fX K) 18 0)), some (.int iv), none, none, none] (.int k :: [])
  refine g_istore (np := 2407) (lv' := [some (.ref b), some (.ref (xad (fX K) 14 0)), some (.ref (xad (fX K) 15 0)), some (.ref (xad (fX K) 17 0)), some (.ref (xad (fX K) 18 0)), some (.int iv), some (.int k), none, none]) B.1 dL_law_2405 (by decide) rfl rfl rfl ?_
  refine g_aload_n (np := 2408) B.1 dL_law_2407 rfl rfl ?_
  refine g_aload_n (np := 2409) B.1 dL_law_2408 rfl rfl ?_
  refine g_iload (np := 2411) B.1 dL_law_2409 rfl rfl ?_
  refine g_iconst (v := 1) (np := 2412) B.1 dL_law_2411 (by decide) rfl ?_
  refine g_iadd (np := 2413) B.1 dL_law_2412 rfl ?_
  refine g_sld (np := 2414) B h1 dL_law_2413 rfl ?_
  rw [e1]
  refine g_i2c (np := 2415) (v := (a1.toUInt32 % 65536).toInt32) B.1 dL_law_2414 rfl rfl ?_
  refine g_callL (np := 2418) B 15 (by decide) rfl rfl rfl (n := 1) (As := [.int (a1.toUInt32 % 65536).toInt32]) (oX13_type B.1.tr ((a1.toUInt32 % 65536).toInt32) _ _ _ h) b_2167 b_2164 b_2165 b_2166 b_85 (by decide +kernel) rfl (Nat.le_of_ble_eq_true rfl) (Nat.le_of_ble_eq_true rfl) (Nat.le_of_ble_eq_true rfl) dL_law_2415 (by omega) (by omega) rfl (fun r1 s1 hr => ?_)
  obtain ⟨bb, rfl, h⟩ := hr
  show Go K _ _ s1 2418 [some (.ref b), some (.ref (xad (fX K) 14 0)), some (.ref (xad (fX K) 15 0)), some (.ref (xad (fX K) 17 0)), some (.ref (xad (fX K) 18 0)), some (.int iv), some (.int k), none, none] (.int bb :: [])
  refine g_istore (np := 2420) (lv' := [some (.ref b), some (.ref (xad (fX K) 14 0)), some (.ref (xad (fX K) 15 0)), some (.ref (xad (fX K) 17 0)), some (.ref (xad (fX K) 18 0)), some (.int iv), some (.int k), some (.int bb), none]) B.1 dL_law_2418 (by decide) rfl rfl rfl ?_
  refine g_aload_n (np := 2421) B.1 dL_law_2420 rfl rfl ?_
  refine g_callL (np := 2424) B 15 (by decide) rfl rfl rfl (n := 0) (As := []) (oX13_thrown B.1.tr  _ _ _ h) b_1814 b_1811 b_1812 b_1813 b_85 (by decide +kernel) rfl (Nat.le_of_ble_eq_true rfl) (Nat.le_of_ble_eq_true rfl) (Nat.le_of_ble_eq_true rfl) dL_law_2421 (by omega) (by omega) rfl (fun r2 s2 hr => ?_)
  obtain ⟨t, rfl, h⟩ := hr
  show Go K _ _ s2 2424 [some (.ref b), some (.ref (xad (fX K) 14 0)), some (.ref (xad (fX K) 15 0)), some (.ref (xad (fX K) 17 0)), some (.ref (xad (fX K) 18 0)), some (.int iv), some (.int k), some (.int bb), none] (.int t :: [])
  obtain ⟨hk, hv, h⟩ := h
  refine g_iload (np := 2426) B.1 dL_law_2424 rfl rfl ?_
  refine g_icmp_eq (np := 2429) (tgt := 2431) B.1 dL_law_2426 (by decide) rfl (fun _ => ?_) (fun q => absurd hk q)
  refine g_iload (np := 2433) B.1 dL_law_2431 rfl rfl ?_
  have key : Go K (cells + 1) (slots + 302) s2 2448 [some (.ref b), some (.ref (xad (fX K) 14 0)), some (.ref (xad (fX K) 15 0)), some (.ref (xad (fX K) 17 0)), some (.ref (xad (fX K) 18 0)), some (.int iv), some (.int k), some (.int bb), none] [] := by
    refine g_goto (tgt := 2684) B.1 dL_law_2448 (by decide) ?_
    refine Go.lle [some (.ref b), some (.ref (xad (fX K) 14 0)), some (.ref (xad (fX K) 15 0)), some (.ref (xad (fX K) 17 0)), some (.ref (xad (fX K) 18 0)), some (.int iv), none, none, none] (by simp [lle]) ?_
    exact Go.widen (by omega) (by omega) (kk _ h)
  refine g_if_ne (np := 2436) (tgt := 2448) B.1 dL_law_2433 (by decide) rfl (fun _ => Go.widen (by omega) (by omega) key) (fun q => ?_)
  replace hv := hv q
  refine g_aload_n (np := 2437) B.1 dL_law_2436 rfl rfl ?_
  refine g_iconst (v := 0) (np := 2438) B.1 dL_law_2437 (by decide) rfl ?_
  refine g_lald (np := 2439) B.1 dL_law_2438 rfl ?_
  refine g_iload (np := 2441) B.1 dL_law_2439 rfl rfl ?_
  refine g_i2l (np := 2442) B.1 dL_law_2441 rfl ?_
  rw [hv]
  refine g_lcmp (np := 2443) B.1 dL_law_2442 rfl ?_
  rw [lcmp_self]
  refine g_if_eq (np := 2446) (tgt := 2448) B.1 dL_law_2443 (by decide) rfl (fun _ => Go.widen (by omega) (by omega) key) (fun q => absurd rfl q)
def wC_52 (s_ : Mem) (Q : Mem → Prop) : Prop := wL_runScript  s_ (fun (k : Int32) (s0 : Mem) => wX13_runScript  s0 (fun (bb : Int32) (s1 : Mem) => wX13_thrown  s1 (fun (t : Int32) (s2 : Mem) => t = k ∧ (k = 0 → rdL s2 = bb.toInt64) ∧ Q s2) (fun _ _ => False)) (fun _ _ => False))
set_option maxRecDepth 20000 in
set_option maxHeartbeats 4000000 in
theorem oC_52 {K : Fr} {b L : Nat} {xs : Nat → Int32} (B : BL K b L xs) {cells slots : Nat} {iv : Int32} {s_ : Mem} {Q : Mem → Prop} (h : wC_52  s_ Q) (hc : cells + 32 ≤ 603072) (hs : slots + 9000 ≤ 7202922) (kk : ∀ σ, Q σ → Go K (cells + 32) (slots + 9000) σ 2684 [some (.ref b), some (.ref (xad (fX K) 14 0)), some (.ref (xad (fX K) 15 0)), some (.ref (xad (fX K) 17 0)), some (.ref (xad (fX K) 18 0)), some (.int iv), none, none, none] []) : Go K cells slots s_ 2451 [some (.ref b), some (.ref (xad (fX K) 14 0)), some (.ref (xad (fX K) 15 0)), some (.ref (xad (fX K) 17 0)), some (.ref (xad (fX K) 18 0)), some (.int iv), none, none, none] [] := by
  unfold wC_52 at h
  refine g_aload_n (np := 2452) B.1 dL_law_2451 rfl rfl ?_
  refine g_aload_n (np := 2453) B.1 dL_law_2452 rfl rfl ?_
  refine g_callW (np := 2456) B (n := 2) (As := [.ref (xad (fX K) 14 0), .ref (xad (fX K) 17 0)]) (oL_runScript B.1.tr  _ _ h) b_1620 b_1618 b_1619 b_69 (by decide +kernel) rfl (Nat.le_of_ble_eq_true rfl) (Nat.le_of_ble_eq_true rfl) (Nat.le_of_ble_eq_true rfl) dL_law_2453 (by omega) (by omega) rfl (fun r0 s0 hr => ?_)
  obtain ⟨k, rfl, h⟩ := hr
  show Go K _ _ s0 2456 [some (.ref b), some (.ref (xad (fX K) 14 0)), some (.ref (xad (fX K) 15 0)), some (.ref (xad (fX K) 17 0)), some (.ref (xad (fX K) 18 0)), some (.int iv), none, none, none] (.int k :: [])
  refine g_istore (np := 2458) (lv' := [some (.ref b), some (.ref (xad (fX K) 14 0)), some (.ref (xad (fX K) 15 0)), some (.ref (xad (fX K) 17 0)), some (.ref (xad (fX K) 18 0)), some (.int iv), some (.int k), none, none]) B.1 dL_law_2456 (by decide) rfl rfl rfl ?_
  refine g_aload_n (np := 2459) B.1 dL_law_2458 rfl rfl ?_
  refine g_callL (np := 2462) B 15 (by decide) rfl rfl rfl (n := 0) (As := []) (oX13_runScript B.1.tr  _ _ _ h) b_2171 b_2168 b_2169 b_2170 b_85 (by decide +kernel) rfl (Nat.le_of_ble_eq_true rfl) (Nat.le_of_ble_eq_true rfl) (Nat.le_of_ble_eq_true rfl) dL_law_2459 (by omega) (by omega) rfl (fun r1 s1 hr => ?_)
  obtain ⟨bb, rfl, h⟩ := hr
  show Go K _ _ s1 2462 [some (.ref b), some (.ref (xad (fX K) 14 0)), some (.ref (xad (fX K) 15 0)), some (.ref (xad (fX K) 17 0)), some (.ref (xad (fX K) 18 0)), some (.int iv), some (.int k), none, none] (.int bb :: [])
  refine g_istore (np := 2464) (lv' := [some (.ref b), some (.ref (xad (fX K) 14 0)), some (.ref (xad (fX K) 15 0)), some (.ref (xad (fX K) 17 0)), some (.ref (xad (fX K) 18 0)), some (.int iv), some (.int k), some (.int bb), none]) B.1 dL_law_2462 (by decide) rfl rfl rfl ?_
  refine g_aload_n (np := 2465) B.1 dL_law_2464 rfl rfl ?_
  refine g_callL (np := 2468) B 15 (by decide) rfl rfl rfl (n := 0) (As := []) (oX13_thrown B.1.tr  _ _ _ h) b_1814 b_1811 b_1812 b_1813 b_85 (by decide +kernel) rfl (Nat.le_of_ble_eq_true rfl) (Nat.le_of_ble_eq_true rfl) (Nat.le_of_ble_eq_true rfl) dL_law_2465 (by omega) (by omega) rfl (fun r2 s2 hr => ?_)
  obtain ⟨t, rfl, h⟩ := hr
  show Go K _ _ s2 2468 [some (.ref b), some (.ref (xad (fX K) 14 0)), some (.ref (xad (fX K) 15 0)), some (.ref (xad (fX K) 17 0)), some (.ref (xad (fX K) 18 0)), some (.int iv), some (.int k), some (.int bb), none] (.int t :: [])
  obtain ⟨hk, hv, h⟩ := h
  refine g_iload (np := 2470) B.1 dL_law_2468 rfl rfl ?_
  refine g_icmp_eq (np := 2473) (tgt := 2475) B.1 dL_law_2470 (by decide) rfl (fun _ => ?_) (fun q => absurd hk q)
  refine g_iload (np := 2477) B.1 dL_law_2475 rfl rfl ?_
  have key : Go K (cells + 2) (slots + 308) s2 2492 [some (.ref b), some (.ref (xad (fX K) 14 0)), some (.ref (xad (fX K) 15 0)), some (.ref (xad (fX K) 17 0)), some (.ref (xad (fX K) 18 0)), some (.int iv), some (.int k), some (.int bb), none] [] := by
    refine g_goto (tgt := 2684) B.1 dL_law_2492 (by decide) ?_
    refine Go.lle [some (.ref b), some (.ref (xad (fX K) 14 0)), some (.ref (xad (fX K) 15 0)), some (.ref (xad (fX K) 17 0)), some (.ref (xad (fX K) 18 0)), some (.int iv), none, none, none] (by simp [lle]) ?_
    exact Go.widen (by omega) (by omega) (kk _ h)
  refine g_if_ne (np := 2480) (tgt := 2492) B.1 dL_law_2477 (by decide) rfl (fun _ => Go.widen (by omega) (by omega) key) (fun q => ?_)
  replace hv := hv q
  refine g_aload_n (np := 2481) B.1 dL_law_2480 rfl rfl ?_
  refine g_iconst (v := 0) (np := 2482) B.1 dL_law_2481 (by decide) rfl ?_
  refine g_lald (np := 2483) B.1 dL_law_2482 rfl ?_
  refine g_iload (np := 2485) B.1 dL_law_2483 rfl rfl ?_
  refine g_i2l (np := 2486) B.1 dL_law_2485 rfl ?_
  rw [hv]
  refine g_lcmp (np := 2487) B.1 dL_law_2486 rfl ?_
  rw [lcmp_self]
  refine g_if_eq (np := 2490) (tgt := 2492) B.1 dL_law_2487 (by decide) rfl (fun _ => Go.widen (by omega) (by omega) key) (fun q => absurd rfl q)
def wC_53 (s_ : Mem) (Q : Mem → Prop) : Prop := wL_errorPosition  s_ (fun (k : Int32) (s0 : Mem) => wX13_errorPosition  s0 (fun (bb : Int32) (s1 : Mem) => wX13_thrown  s1 (fun (t : Int32) (s2 : Mem) => t = k ∧ (k = 0 → rdL s2 = bb.toInt64) ∧ Q s2) (fun _ _ => False)) (fun _ _ => False))
set_option maxRecDepth 20000 in
set_option maxHeartbeats 4000000 in
theorem oC_53 {K : Fr} {b L : Nat} {xs : Nat → Int32} (B : BL K b L xs) {cells slots : Nat} {iv : Int32} {s_ : Mem} {Q : Mem → Prop} (h : wC_53  s_ Q) (hc : cells + 32 ≤ 603072) (hs : slots + 9000 ≤ 7202922) (kk : ∀ σ, Q σ → Go K (cells + 32) (slots + 9000) σ 2684 [some (.ref b), some (.ref (xad (fX K) 14 0)), some (.ref (xad (fX K) 15 0)), some (.ref (xad (fX K) 17 0)), some (.ref (xad (fX K) 18 0)), some (.int iv), none, none, none] []) : Go K cells slots s_ 2495 [some (.ref b), some (.ref (xad (fX K) 14 0)), some (.ref (xad (fX K) 15 0)), some (.ref (xad (fX K) 17 0)), some (.ref (xad (fX K) 18 0)), some (.int iv), none, none, none] [] := by
  unfold wC_53 at h
  refine g_aload_n (np := 2496) B.1 dL_law_2495 rfl rfl ?_
  refine g_aload_n (np := 2497) B.1 dL_law_2496 rfl rfl ?_
  refine g_callW (np := 2500) B (n := 2) (As := [.ref (xad (fX K) 14 0), .ref (xad (fX K) 17 0)]) (oL_errorPosition B.1.tr  _ _ h) b_1702 b_1700 b_1701 b_69 (by decide +kernel) rfl (Nat.le_of_ble_eq_true rfl) (Nat.le_of_ble_eq_true rfl) (Nat.le_of_ble_eq_true rfl) dL_law_2497 (by omega) (by omega) rfl (fun r0 s0 hr => ?_)
  obtain ⟨k, rfl, h⟩ := hr
  show Go K _ _ s0 2500 [some (.ref b), some (.ref (xad (fX K) 14 0)), some (.ref (xad (fX K) 15 0)), some (.ref (xad (fX K) 17 0)), some (.ref (xad (fX K) 18 0)), some (.int iv), none, none, none] (.int k :: [])
  refine g_istore (np := 2502) (lv' := [some (.ref b), some (.ref (xad (fX K) 14 0)), some (.ref (xad (fX K) 15 0)), some (.ref (xad (fX K) 17 0)), some (.ref (xad (fX K) 18 0)), some (.int iv), some (.int k), none, none]) B.1 dL_law_2500 (by decide) rfl rfl rfl ?_
  refine g_aload_n (np := 2503) B.1 dL_law_2502 rfl rfl ?_
  refine g_callL (np := 2506) B 15 (by decide) rfl rfl rfl (n := 0) (As := []) (oX13_errorPosition B.1.tr  _ _ _ h) b_2229 b_2226 b_2227 b_2228 b_85 (by decide +kernel) rfl (Nat.le_of_ble_eq_true rfl) (Nat.le_of_ble_eq_true rfl) (Nat.le_of_ble_eq_true rfl) dL_law_2503 (by omega) (by omega) rfl (fun r1 s1 hr => ?_)
  obtain ⟨bb, rfl, h⟩ := hr
  show Go K _ _ s1 2506 [some (.ref b), some (.ref (xad (fX K) 14 0)), some (.ref (xad (fX K) 15 0)), some (.ref (xad (fX K) 17 0)), some (.ref (xad (fX K) 18 0)), some (.int iv), some (.int k), none, none] (.int bb :: [])
  refine g_istore (np := 2508) (lv' := [some (.ref b), some (.ref (xad (fX K) 14 0)), some (.ref (xad (fX K) 15 0)), some (.ref (xad (fX K) 17 0)), some (.ref (xad (fX K) 18 0)), some (.int iv), some (.int k), some (.int bb), none]) B.1 dL_law_2506 (by decide) rfl rfl rfl ?_
  refine g_aload_n (np := 2509) B.1 dL_law_2508 rfl rfl ?_
  refine g_callL (np := 2512) B 15 (by decide) rfl rfl rfl (n := 0) (As := []) (oX13_thrown B.1.tr  _ _ _ h) b_1814 b_1811 b_1812 b_1813 b_85 (by decide +kernel) rfl (Nat.le_of_ble_eq_true rfl) (Nat.le_of_ble_eq_true rfl) (Nat.le_of_ble_eq_true rfl) dL_law_2509 (by omega) (by omega) rfl (fun r2 s2 hr => ?_)
  obtain ⟨t, rfl, h⟩ := hr
  show Go K _ _ s2 2512 [some (.ref b), some (.ref (xad (fX K) 14 0)), some (.ref (xad (fX K) 15 0)), some (.ref (xad (fX K) 17 0)), some (.ref (xad (fX K) 18 0)), some (.int iv), some (.int k), some (.int bb), none] (.int t :: [])
  obtain ⟨hk, hv, h⟩ := h
  refine g_iload (np := 2514) B.1 dL_law_2512 rfl rfl ?_
  refine g_icmp_eq (np := 2517) (tgt := 2519) B.1 dL_law_2514 (by decide) rfl (fun _ => ?_) (fun q => absurd hk q)
  refine g_iload (np := 2521) B.1 dL_law_2519 rfl rfl ?_
  have key : Go K (cells + 1) (slots + 6) s2 2536 [some (.ref b), some (.ref (xad (fX K) 14 0)), some (.ref (xad (fX K) 15 0)), some (.ref (xad (fX K) 17 0)), some (.ref (xad (fX K) 18 0)), some (.int iv), some (.int k), some (.int bb), none] [] := by
    refine g_goto (tgt := 2684) B.1 dL_law_2536 (by decide) ?_
    refine Go.lle [some (.ref b), some (.ref (xad (fX K) 14 0)), some (.ref (xad (fX K) 15 0)), some (.ref (xad (fX K) 17 0)), some (.ref (xad (fX K) 18 0)), some (.int iv), none, none, none] (by simp [lle]) ?_
    exact Go.widen (by omega) (by omega) (kk _ h)
  refine g_if_ne (np := 2524) (tgt := 2536) B.1 dL_law_2521 (by decide) rfl (fun _ => Go.widen (by omega) (by omega) key) (fun q => ?_)
  replace hv := hv q
  refine g_aload_n (np := 2525) B.1 dL_law_2524 rfl rfl ?_
  refine g_iconst (v := 0) (np := 2526) B.1 dL_law_2525 (by decide) rfl ?_
  refine g_lald (np := 2527) B.1 dL_law_2526 rfl ?_
  refine g_iload (np := 2529) B.1 dL_law_2527 rfl rfl ?_
  refine g_i2l (np := 2530) B.1 dL_law_2529 rfl ?_
  rw [hv]
  refine g_lcmp (np := 2531) B.1 dL_law_2530 rfl ?_
  rw [lcmp_self]
  refine g_if_eq (np := 2534) (tgt := 2536) B.1 dL_law_2531 (by decide) rfl (fun _ => Go.widen (by omega) (by omega) key) (fun q => absurd rfl q)
def wC_54 (s_ : Mem) (Q : Mem → Prop) : Prop := wL_failedCommand  s_ (fun (k : Int32) (s0 : Mem) => wX13_failedCommand  s0 (fun (bb : Int32) (s1 : Mem) => wX13_thrown  s1 (fun (t : Int32) (s2 : Mem) => t = k ∧ (k = 0 → rdL s2 = bb.toInt64) ∧ Q s2) (fun _ _ => False)) (fun _ _ => False))
set_option maxRecDepth 20000 in
set_option maxHeartbeats 4000000 in
theorem oC_54 {K : Fr} {b L : Nat} {xs : Nat → Int32} (B : BL K b L xs) {cells slots : Nat} {iv : Int32} {s_ : Mem} {Q : Mem → Prop} (h : wC_54  s_ Q) (hc : cells + 32 ≤ 603072) (hs : slots + 9000 ≤ 7202922) (kk : ∀ σ, Q σ → Go K (cells + 32) (slots + 9000) σ 2684 [some (.ref b), some (.ref (xad (fX K) 14 0)), some (.ref (xad (fX K) 15 0)), some (.ref (xad (fX K) 17 0)), some (.ref (xad (fX K) 18 0)), some (.int iv), none, none, none] []) : Go K cells slots s_ 2539 [some (.ref b), some (.ref (xad (fX K) 14 0)), some (.ref (xad (fX K) 15 0)), some (.ref (xad (fX K) 17 0)), some (.ref (xad (fX K) 18 0)), some (.int iv), none, none, none] [] := by
  unfold wC_54 at h
  refine g_aload_n (np := 2540) B.1 dL_law_2539 rfl rfl ?_
  refine g_aload_n (np := 2541) B.1 dL_law_2540 rfl rfl ?_
  refine g_callW (np := 2544) B (n := 2) (As := [.ref (xad (fX K) 14 0), .ref (xad (fX K) 17 0)]) (oL_failedCommand B.1.tr  _ _ h) b_1710 b_1708 b_1709 b_69 (by decide +kernel) rfl (Nat.le_of_ble_eq_true rfl) (Nat.le_of_ble_eq_true rfl) (Nat.le_of_ble_eq_true rfl) dL_law_2541 (by omega) (by omega) rfl (fun r0 s0 hr => ?_)
  obtain ⟨k, rfl, h⟩ := hr
  show Go K _ _ s0 2544 [some (.ref b), some (.ref (xad (fX K) 14 0)), some (.ref (xad (fX K) 15 0)), some (.ref (xad (fX K) 17 0)), some (.ref (xad (fX K) 18 0)), some (.int iv), none, none, none] (.int k :: [])
  refine g_istore (np := 2546) (lv' := [some (.ref b), some (.ref (xad (fX K) 14 0)), some (.ref (xad (fX K) 15 0)), some (.ref (xad (fX K) 17 0)), some (.ref (xad (fX K) 18 0)), some (.int iv), some (.int k), none, none]) B.1 dL_law_2544 (by decide) rfl rfl rfl ?_
  refine g_aload_n (np := 2547) B.1 dL_law_2546 rfl rfl ?_
  refine g_callL (np := 2550) B 15 (by decide) rfl rfl rfl (n := 0) (As := []) (oX13_failedCommand B.1.tr  _ _ _ h) b_2233 b_2230 b_2231 b_2232 b_85 (by decide +kernel) rfl (Nat.le_of_ble_eq_true rfl) (Nat.le_of_ble_eq_true rfl) (Nat.le_of_ble_eq_true rfl) dL_law_2547 (by omega) (by omega) rfl (fun r1 s1 hr => ?_)
  obtain ⟨bb, rfl, h⟩ := hr
  show Go K _ _ s1 2550 [some (.ref b), some (.ref (xad (fX K) 14 0)), some (.ref (xad (fX K) 15 0)), some (.ref (xad (fX K) 17 0)), some (.ref (xad (fX K) 18 0)), some (.int iv), some (.int k), none, none] (.int bb :: [])
  refine g_istore (np := 2552) (lv' := [some (.ref b), some (.ref (xad (fX K) 14 0)), some (.ref (xad (fX K) 15 0)), some (.ref (xad (fX K) 17 0)), some (.ref (xad (fX K) 18 0)), some (.int iv), some (.int k), some (.int bb), none]) B.1 dL_law_2550 (by decide) rfl rfl rfl ?_
  refine g_aload_n (np := 2553) B.1 dL_law_2552 rfl rfl ?_
  refine g_callL (np := 2556) B 15 (by decide) rfl rfl rfl (n := 0) (As := []) (oX13_thrown B.1.tr  _ _ _ h) b_1814 b_1811 b_1812 b_1813 b_85 (by decide +kernel) rfl (Nat.le_of_ble_eq_true rfl) (Nat.le_of_ble_eq_true rfl) (Nat.le_of_ble_eq_true rfl) dL_law_2553 (by omega) (by omega) rfl (fun r2 s2 hr => ?_)
  obtain ⟨t, rfl, h⟩ := hr
  show Go K _ _ s2 2556 [some (.ref b), some (.ref (xad (fX K) 14 0)), some (.ref (xad (fX K) 15 0)), some (.ref (xad (fX K) 17 0)), some (.ref (xad (fX K) 18 0)), some (.int iv), some (.int k), some (.int bb), none] (.int t :: [])
  obtain ⟨hk, hv, h⟩ := h
  refine g_iload (np := 2558) B.1 dL_law_2556 rfl rfl ?_
  refine g_icmp_eq (np := 2561) (tgt := 2563) B.1 dL_law_2558 (by decide) rfl (fun _ => ?_) (fun q => absurd hk q)
  refine g_iload (np := 2565) B.1 dL_law_2563 rfl rfl ?_
  have key : Go K (cells + 1) (slots + 6) s2 2580 [some (.ref b), some (.ref (xad (fX K) 14 0)), some (.ref (xad (fX K) 15 0)), some (.ref (xad (fX K) 17 0)), some (.ref (xad (fX K) 18 0)), some (.int iv), some (.int k), some (.int bb), none] [] := by
    refine g_goto (tgt := 2684) B.1 dL_law_2580 (by decide) ?_
    refine Go.lle [some (.ref b), some (.ref (xad (fX K) 14 0)), some (.ref (xad (fX K) 15 0)), some (.ref (xad (fX K) 17 0)), some (.ref (xad (fX K) 18 0)), some (.int iv), none, none, none] (by simp [lle]) ?_
    exact Go.widen (by omega) (by omega) (kk _ h)
  refine g_if_ne (np := 2568) (tgt := 2580) B.1 dL_law_2565 (by decide) rfl (fun _ => Go.widen (by omega) (by omega) key) (fun q => ?_)
  replace hv := hv q
  refine g_aload_n (np := 2569) B.1 dL_law_2568 rfl rfl ?_
  refine g_iconst (v := 0) (np := 2570) B.1 dL_law_2569 (by decide) rfl ?_
  refine g_lald (np := 2571) B.1 dL_law_2570 rfl ?_
  refine g_iload (np := 2573) B.1 dL_law_2571 rfl rfl ?_
  refine g_i2l (np := 2574) B.1 dL_law_2573 rfl ?_
  rw [hv]
  refine g_lcmp (np := 2575) B.1 dL_law_2574 rfl ?_
  rw [lcmp_self]
  refine g_if_eq (np := 2578) (tgt := 2580) B.1 dL_law_2575 (by decide) rfl (fun _ => Go.widen (by omega) (by omega) key) (fun q => absurd rfl q)
def wC_55 (s_ : Mem) (Q : Mem → Prop) : Prop := wL_undo  s_ (fun (k : Int32) (s0 : Mem) => wX13_undo  s0 (fun (bb : Int32) (s1 : Mem) => wX13_thrown  s1 (fun (t : Int32) (s2 : Mem) => t = k ∧ (k = 0 → rdL s2 = bb.toInt64) ∧ Q s2) (fun _ _ => False)) (fun _ _ => False))
set_option maxRecDepth 20000 in
set_option maxHeartbeats 4000000 in
theorem oC_55 {K : Fr} {b L : Nat} {xs : Nat → Int32} (B : BL K b L xs) {cells slots : Nat} {iv : Int32} {s_ : Mem} {Q : Mem → Prop} (h : wC_55  s_ Q) (hc : cells + 32 ≤ 603072) (hs : slots + 9000 ≤ 7202922) (kk : ∀ σ, Q σ → Go K (cells + 32) (slots + 9000) σ 2684 [some (.ref b), some (.ref (xad (fX K) 14 0)), some (.ref (xad (fX K) 15 0)), some (.ref (xad (fX K) 17 0)), some (.ref (xad (fX K) 18 0)), some (.int iv), none, none, none] []) : Go K cells slots s_ 2583 [some (.ref b), some (.ref (xad (fX K) 14 0)), some (.ref (xad (fX K) 15 0)), some (.ref (xad (fX K) 17 0)), some (.ref (xad (fX K) 18 0)), some (.int iv), none, none, none] [] := by
  unfold wC_55 at h
  refine g_aload_n (np := 2584) B.1 dL_law_2583 rfl rfl ?_
  refine g_aload_n (np := 2585) B.1 dL_law_2584 rfl rfl ?_
  refine g_callW (np := 2588) B (n := 2) (As := [.ref (xad (fX K) 14 0), .ref (xad (fX K) 17 0)]) (oL_undo B.1.tr  _ _ h) b_1718 b_1716 b_1717 b_69 (by decide +kernel) rfl (Nat.le_of_ble_eq_true rfl) (Nat.le_of_ble_eq_true rfl) (Nat.le_of_ble_eq_true rfl) dL_law_2585 (by omega) (by omega) rfl (fun r0 s0 hr => ?_)
  obtain ⟨k, rfl, h⟩ := hr
  show Go K _ _ s0 2588 [some (.ref b), some (.ref (xad (fX K) 14 0)), some (.ref (xad (fX K) 15 0)), some (.ref (xad (fX K) 17 0)), some (.ref (xad (fX K) 18 0)), some (.int iv), none, none, none] (.int k :: [])
  refine g_istore (np := 2590) (lv' := [some (.ref b), some (.ref (xad (fX K) 14 0)), some (.ref (xad (fX K) 15 0)), some (.ref (xad (fX K) 17 0)), some (.ref (xad (fX K) 18 0)), some (.int iv), some (.int k), none, none]) B.1 dL_law_2588 (by decide) rfl rfl rfl ?_
  refine g_aload_n (np := 2591) B.1 dL_law_2590 rfl rfl ?_
  refine g_callL (np := 2594) B 15 (by decide) rfl rfl rfl (n := 0) (As := []) (oX13_undo B.1.tr  _ _ _ h) b_2237 b_2234 b_2235 b_2236 b_85 (by decide +kernel) rfl (Nat.le_of_ble_eq_true rfl) (Nat.le_of_ble_eq_true rfl) (Nat.le_of_ble_eq_true rfl) dL_law_2591 (by omega) (by omega) rfl (fun r1 s1 hr => ?_)
  obtain ⟨bb, rfl, h⟩ := hr
  show Go K _ _ s1 2594 [some (.ref b), some (.ref (xad (fX K) 14 0)), some (.ref (xad (fX K) 15 0)), some (.ref (xad (fX K) 17 0)), some (.ref (xad (fX K) 18 0)), some (.int iv), some (.int k), none, none] (.int bb :: [])
  refine g_istore (np := 2596) (lv' := [some (.ref b), some (.ref (xad (fX K) 14 0)), some (.ref (xad (fX K) 15 0)), some (.ref (xad (fX K) 17 0)), some (.ref (xad (fX K) 18 0)), some (.int iv), some (.int k), some (.int bb), none]) B.1 dL_law_2594 (by decide) rfl rfl rfl ?_
  refine g_aload_n (np := 2597) B.1 dL_law_2596 rfl rfl ?_
  refine g_callL (np := 2600) B 15 (by decide) rfl rfl rfl (n := 0) (As := []) (oX13_thrown B.1.tr  _ _ _ h) b_1814 b_1811 b_1812 b_1813 b_85 (by decide +kernel) rfl (Nat.le_of_ble_eq_true rfl) (Nat.le_of_ble_eq_true rfl) (Nat.le_of_ble_eq_true rfl) dL_law_2597 (by omega) (by omega) rfl (fun r2 s2 hr => ?_)
  obtain ⟨t, rfl, h⟩ := hr
  show Go K _ _ s2 2600 [some (.ref b), some (.ref (xad (fX K) 14 0)), some (.ref (xad (fX K) 15 0)), some (.ref (xad (fX K) 17 0)), some (.ref (xad (fX K) 18 0)), some (.int iv), some (.int k), some (.int bb), none] (.int t :: [])
  obtain ⟨hk, hv, h⟩ := h
  refine g_iload (np := 2602) B.1 dL_law_2600 rfl rfl ?_
  refine g_icmp_eq (np := 2605) (tgt := 2607) B.1 dL_law_2602 (by decide) rfl (fun _ => ?_) (fun q => absurd hk q)
  refine g_iload (np := 2609) B.1 dL_law_2607 rfl rfl ?_
  have key : Go K (cells + 1) (slots + 6) s2 2624 [some (.ref b), some (.ref (xad (fX K) 14 0)), some (.ref (xad (fX K) 15 0)), some (.ref (xad (fX K) 17 0)), some (.ref (xad (fX K) 18 0)), some (.int iv), some (.int k), some (.int bb), none] [] := by
    refine g_goto (tgt := 2684) B.1 dL_law_2624 (by decide) ?_
    refine Go.lle [some (.ref b), some (.ref (xad (fX K) 14 0)), some (.ref (xad (fX K) 15 0)), some (.ref (xad (fX K) 17 0)), some (.ref (xad (fX K) 18 0)), some (.int iv), none, none, none] (by simp [lle]) ?_
    exact Go.widen (by omega) (by omega) (kk _ h)
  refine g_if_ne (np := 2612) (tgt := 2624) B.1 dL_law_2609 (by decide) rfl (fun _ => Go.widen (by omega) (by omega) key) (fun q => ?_)
  replace hv := hv q
  refine g_aload_n (np := 2613) B.1 dL_law_2612 rfl rfl ?_
  refine g_iconst (v := 0) (np := 2614) B.1 dL_law_2613 (by decide) rfl ?_
  refine g_lald (np := 2615) B.1 dL_law_2614 rfl ?_
  refine g_iload (np := 2617) B.1 dL_law_2615 rfl rfl ?_
  refine g_i2l (np := 2618) B.1 dL_law_2617 rfl ?_
  rw [hv]
  refine g_lcmp (np := 2619) B.1 dL_law_2618 rfl ?_
  rw [lcmp_self]
  refine g_if_eq (np := 2622) (tgt := 2624) B.1 dL_law_2619 (by decide) rfl (fun _ => Go.widen (by omega) (by omega) key) (fun q => absurd rfl q)
def wC_56 (s_ : Mem) (Q : Mem → Prop) : Prop := wX12_save  s_ (fun (r1 : Int32) (s1 : Mem) => wX13_save  s1 (fun (r2 : Int32) (s2 : Mem) => r1 = r2 ∧ Q s2) (fun _ _ => False)) (fun _ _ => False)
set_option maxRecDepth 20000 in
set_option maxHeartbeats 4000000 in
theorem oC_56 {K : Fr} {b L : Nat} {xs : Nat → Int32} (B : BL K b L xs) {cells slots : Nat} {iv : Int32} {s_ : Mem} {Q : Mem → Prop} (h : wC_56  s_ Q) (hc : cells + 32 ≤ 603072) (hs : slots + 9000 ≤ 7202922) (kk : ∀ σ, Q σ → Go K (cells + 32) (slots + 9000) σ 2684 [some (.ref b), some (.ref (xad (fX K) 14 0)), some (.ref (xad (fX K) 15 0)), some (.ref (xad (fX K) 17 0)), some (.ref (xad (fX K) 18 0)), some (.int iv), none, none, none] []) : Go K cells slots s_ 2627 [some (.ref b), some (.ref (xad (fX K) 14 0)), some (.ref (xad (fX K) 15 0)), some (.ref (xad (fX K) 17 0)), some (.ref (xad (fX K) 18 0)), some (.int iv), none, none, none] [] := by
  unfold wC_56 at h
  refine g_aload_n (np := 2628) B.1 dL_law_2627 rfl rfl ?_
  refine g_callL (np := 2631) B 14 (by decide) rfl rfl rfl (n := 0) (As := []) (oX12_save B.1.tr  _ _ _ h) b_1007 b_1004 b_1005 b_1006 b_70 (by decide +kernel) rfl (Nat.le_of_ble_eq_true rfl) (Nat.le_of_ble_eq_true rfl) (Nat.le_of_ble_eq_true rfl) dL_law_2628 (by omega) (by omega) rfl (fun r1 s1 hr => ?_)
  obtain ⟨r1, rfl, h⟩ := hr
  show Go K _ _ s1 2631 [some (.ref b), some (.ref (xad (fX K) 14 0)), some (.ref (xad (fX K) 15 0)), some (.ref (xad (fX K) 17 0)), some (.ref (xad (fX K) 18 0)), some (.int iv), none, none, none] (.int r1 :: [])
  refine g_aload_n (np := 2632) B.1 dL_law_2631 rfl rfl ?_
  refine g_callL (np := 2635) B 15 (by decide) rfl rfl rfl (n := 0) (As := []) (oX13_save B.1.tr  _ _ _ h) b_2241 b_2238 b_2239 b_2240 b_85 (by decide +kernel) rfl (Nat.le_of_ble_eq_true rfl) (Nat.le_of_ble_eq_true rfl) (Nat.le_of_ble_eq_true rfl) dL_law_2632 (by omega) (by omega) rfl (fun r2 s2 hr => ?_)
  obtain ⟨r2, rfl, h⟩ := hr
  show Go K _ _ s2 2635 [some (.ref b), some (.ref (xad (fX K) 14 0)), some (.ref (xad (fX K) 15 0)), some (.ref (xad (fX K) 17 0)), some (.ref (xad (fX K) 18 0)), some (.int iv), none, none, none] (.int r2 :: .int r1 :: [])
  obtain ⟨he, h⟩ := h
  refine g_icmp_eq (np := 2638) (tgt := 2684) B.1 dL_law_2635 (by decide) rfl (fun _ => ?_) (fun q => absurd he q)
  exact Go.widen (by omega) (by omega) (kk _ h)
def wC_57 (s_ : Mem) (Q : Mem → Prop) : Prop := wL_restore  s_ (fun (k : Int32) (s0 : Mem) => wX13_restore  s0 (fun (bb : Int32) (s1 : Mem) => wX13_thrown  s1 (fun (t : Int32) (s2 : Mem) => t = k ∧ (k = 0 → rdL s2 = bb.toInt64) ∧ Q s2) (fun _ _ => False)) (fun _ _ => False))
set_option maxRecDepth 20000 in
set_option maxHeartbeats 4000000 in
theorem oC_57 {K : Fr} {b L : Nat} {xs : Nat → Int32} (B : BL K b L xs) {cells slots : Nat} {iv : Int32} {s_ : Mem} {Q : Mem → Prop} (h : wC_57  s_ Q) (hc : cells + 32 ≤ 603072) (hs : slots + 9000 ≤ 7202922) (kk : ∀ σ, Q σ → Go K (cells + 32) (slots + 9000) σ 2684 [some (.ref b), some (.ref (xad (fX K) 14 0)), some (.ref (xad (fX K) 15 0)), some (.ref (xad (fX K) 17 0)), some (.ref (xad (fX K) 18 0)), some (.int iv), none, none, none] []) : Go K cells slots s_ 2640 [some (.ref b), some (.ref (xad (fX K) 14 0)), some (.ref (xad (fX K) 15 0)), some (.ref (xad (fX K) 17 0)), some (.ref (xad (fX K) 18 0)), some (.int iv), none, none, none] [] := by
  unfold wC_57 at h
  refine g_aload_n (np := 2641) B.1 dL_law_2640 rfl rfl ?_
  refine g_aload_n (np := 2642) B.1 dL_law_2641 rfl rfl ?_
  refine g_callW (np := 2645) B (n := 2) (As := [.ref (xad (fX K) 14 0), .ref (xad (fX K) 17 0)]) (oL_restore B.1.tr  _ _ h) b_1734 b_1732 b_1733 b_69 (by decide +kernel) rfl (Nat.le_of_ble_eq_true rfl) (Nat.le_of_ble_eq_true rfl) (Nat.le_of_ble_eq_true rfl) dL_law_2642 (by omega) (by omega) rfl (fun r0 s0 hr => ?_)
  obtain ⟨k, rfl, h⟩ := hr
  show Go K _ _ s0 2645 [some (.ref b), some (.ref (xad (fX K) 14 0)), some (.ref (xad (fX K) 15 0)), some (.ref (xad (fX K) 17 0)), some (.ref (xad (fX K) 18 0)), some (.int iv), none, none, none] (.int k :: [])
  refine g_istore (np := 2647) (lv' := [some (.ref b), some (.ref (xad (fX K) 14 0)), some (.ref (xad (fX K) 15 0)), some (.ref (xad (fX K) 17 0)), some (.ref (xad (fX K) 18 0)), some (.int iv), some (.int k), none, none]) B.1 dL_law_2645 (by decide) rfl rfl rfl ?_
  refine g_aload_n (np := 2648) B.1 dL_law_2647 rfl rfl ?_
  refine g_callL (np := 2651) B 15 (by decide) rfl rfl rfl (n := 0) (As := []) (oX13_restore B.1.tr  _ _ _ h) b_2245 b_2242 b_2243 b_2244 b_85 (by decide +kernel) rfl (Nat.le_of_ble_eq_true rfl) (Nat.le_of_ble_eq_true rfl) (Nat.le_of_ble_eq_true rfl) dL_law_2648 (by omega) (by omega) rfl (fun r1 s1 hr => ?_)
  obtain ⟨bb, rfl, h⟩ := hr
  show Go K _ _ s1 2651 [some (.ref b), some (.ref (xad (fX K) 14 0)), some (.ref (xad (fX K) 15 0)), some (.ref (xad (fX K) 17 0)), some (.ref (xad (fX K) 18 0)), some (.int iv), some (.int k), none, none] (.int bb :: [])
  refine g_istore (np := 2653) (lv' := [some (.ref b), some (.ref (xad (fX K) 14 0)), some (.ref (xad (fX K) 15 0)), some (.ref (xad (fX K) 17 0)), some (.ref (xad (fX K) 18 0)), some (.int iv), some (.int k), some (.int bb), none]) B.1 dL_law_2651 (by decide) rfl rfl rfl ?_
  refine g_aload_n (np := 2654) B.1 dL_law_2653 rfl rfl ?_
  refine g_callL (np := 2657) B 15 (by decide) rfl rfl rfl (n := 0) (As := []) (oX13_thrown B.1.tr  _ _ _ h) b_1814 b_1811 b_1812 b_1813 b_85 (by decide +kernel) rfl (Nat.le_of_ble_eq_true rfl) (Nat.le_of_ble_eq_true rfl) (Nat.le_of_ble_eq_true rfl) dL_law_2654 (by omega) (by omega) rfl (fun r2 s2 hr => ?_)
  obtain ⟨t, rfl, h⟩ := hr
  show Go K _ _ s2 2657 [some (.ref b), some (.ref (xad (fX K) 14 0)), some (.ref (xad (fX K) 15 0)), some (.ref (xad (fX K) 17 0)), some (.ref (xad (fX K) 18 0)), some (.int iv), some (.int k), some (.int bb), none] (.int t :: [])
  obtain ⟨hk, hv, h⟩ := h
  refine g_iload (np := 2659) B.1 dL_law_2657 rfl rfl ?_
  refine g_icmp_eq (np := 2662) (tgt := 2664) B.1 dL_law_2659 (by decide) rfl (fun _ => ?_) (fun q => absurd hk q)
  refine g_iload (np := 2666) B.1 dL_law_2664 rfl rfl ?_
  have key : Go K (cells + 1) (slots + 6) s2 2681 [some (.ref b), some (.ref (xad (fX K) 14 0)), some (.ref (xad (fX K) 15 0)), some (.ref (xad (fX K) 17 0)), some (.ref (xad (fX K) 18 0)), some (.int iv), some (.int k), some (.int bb), none] [] := by
    refine g_goto (tgt := 2684) B.1 dL_law_2681 (by decide) ?_
    refine Go.lle [some (.ref b), some (.ref (xad (fX K) 14 0)), some (.ref (xad (fX K) 15 0)), some (.ref (xad (fX K) 17 0)), some (.ref (xad (fX K) 18 0)), some (.int iv), none, none, none] (by simp [lle]) ?_
    exact Go.widen (by omega) (by omega) (kk _ h)
  refine g_if_ne (np := 2669) (tgt := 2681) B.1 dL_law_2666 (by decide) rfl (fun _ => Go.widen (by omega) (by omega) key) (fun q => ?_)
  replace hv := hv q
  refine g_aload_n (np := 2670) B.1 dL_law_2669 rfl rfl ?_
  refine g_iconst (v := 0) (np := 2671) B.1 dL_law_2670 (by decide) rfl ?_
  refine g_lald (np := 2672) B.1 dL_law_2671 rfl ?_
  refine g_iload (np := 2674) B.1 dL_law_2672 rfl rfl ?_
  refine g_i2l (np := 2675) B.1 dL_law_2674 rfl ?_
  rw [hv]
  refine g_lcmp (np := 2676) B.1 dL_law_2675 rfl ?_
  rw [lcmp_self]
  refine g_if_eq (np := 2679) (tgt := 2681) B.1 dL_law_2676 (by decide) rfl (fun _ => Go.widen (by omega) (by omega) key) (fun q => absurd rfl q)
