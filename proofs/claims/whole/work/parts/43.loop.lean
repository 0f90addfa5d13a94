/-! THE LAW'S LOOP -/
def wStep (c a1 a2 a3 : Int32) (s_ : Mem) (Q : Mem → Prop) : Prop :=
  (c &&& 63 = 0 → wC_0 a1 a2 a3 s_ Q) ∧
  (c &&& 63 = 1 → wC_1 a1 a2 s_ Q) ∧
  (c &&& 63 = 2 → wC_2 a1 a2 s_ Q) ∧
  (c &&& 63 = 3 → wC_3 a1 s_ Q) ∧
  (c &&& 63 = 4 → wC_4 a1 s_ Q) ∧
  (c &&& 63 = 5 → wC_5 a1 s_ Q) ∧
  (c &&& 63 = 6 → wC_6 a1 s_ Q) ∧
  (c &&& 63 = 7 → wC_7  s_ Q) ∧
  (c &&& 63 = 8 → wC_8 a1 s_ Q) ∧
  (c &&& 63 = 9 → wC_9  s_ Q) ∧
  (c &&& 63 = 10 → wC_10 a1 s_ Q) ∧
  (c &&& 63 = 11 → wC_11 a1 s_ Q) ∧
  (c &&& 63 = 12 → wC_12 a1 s_ Q) ∧
  (c &&& 63 = 13 → wC_13 a1 s_ Q) ∧
  (c &&& 63 = 14 → wC_14 a1 s_ Q) ∧
  (c &&& 63 = 15 → wC_15 a1 a2 s_ Q) ∧
  (c &&& 63 = 16 → wC_16 a1 a2 s_ Q) ∧
  (c &&& 63 = 17 → wC_17 a1 a2 a3 s_ Q) ∧
  (c &&& 63 = 18 → wC_18  s_ Q) ∧
  (c &&& 63 = 19 → wC_19 a1 s_ Q) ∧
  (c &&& 63 = 20 → wC_20 a1 s_ Q) ∧
  (c &&& 63 = 21 → wC_21 a1 s_ Q) ∧
  (c &&& 63 = 22 → wC_22 a1 s_ Q) ∧
  (c &&& 63 = 23 → wC_23 a1 s_ Q) ∧
  (c &&& 63 = 24 → wC_24  s_ Q) ∧
  (c &&& 63 = 25 → wC_25 a1 s_ Q) ∧
  (c &&& 63 = 26 → wC_26  s_ Q) ∧
  (c &&& 63 = 27 → wC_27  s_ Q) ∧
  (c &&& 63 = 28 → wC_28  s_ Q) ∧
  (c &&& 63 = 29 → wC_29 a1 s_ Q) ∧
  (c &&& 63 = 30 → wC_30  s_ Q) ∧
  (c &&& 63 = 31 → wC_31 a1 s_ Q) ∧
  (c &&& 63 = 32 → wC_32 a1 s_ Q) ∧
  (c &&& 63 = 33 → wC_33  s_ Q) ∧
  (c &&& 63 = 34 → wC_34  s_ Q) ∧
  (c &&& 63 = 35 → wC_35  s_ Q) ∧
  (c &&& 63 = 36 → wC_36  s_ Q) ∧
  (c &&& 63 = 37 → wC_37  s_ Q) ∧
  (c &&& 63 = 38 → wC_38  s_ Q) ∧
  (c &&& 63 = 39 → wC_39  s_ Q) ∧
  (c &&& 63 = 40 → wC_40  s_ Q) ∧
  (c &&& 63 = 41 → wC_41  s_ Q) ∧
  (c &&& 63 = 42 → wC_42  s_ Q) ∧
  (c &&& 63 = 43 → wC_43  s_ Q) ∧
  (c &&& 63 = 44 → wC_44  s_ Q) ∧
  (c &&& 63 = 45 → wC_45  s_ Q) ∧
  (c &&& 63 = 46 → wC_46  s_ Q) ∧
  (c &&& 63 = 47 → wC_47  s_ Q) ∧
  (c &&& 63 = 48 → wC_48  s_ Q) ∧
  (c &&& 63 = 49 → wC_49 a1 s_ Q) ∧
  (c &&& 63 = 50 → wC_50 a1 s_ Q) ∧
  (c &&& 63 = 51 → wC_51 a1 s_ Q) ∧
  (c &&& 63 = 52 → wC_52  s_ Q) ∧
  (c &&& 63 = 53 → wC_53  s_ Q) ∧
  (c &&& 63 = 54 → wC_54  s_ Q) ∧
  (c &&& 63 = 55 → wC_55  s_ Q) ∧
  (c &&& 63 = 56 → wC_56  s_ Q) ∧
  (c &&& 63 = 57 → wC_57  s_ Q) ∧ Q s_
set_option maxRecDepth 40000 in
set_option maxHeartbeats 8000000 in
theorem o_loop {K : Fr} {b L : Nat} {xs : Nat → Int32} (B : BL K b L xs) (hL : L ≤ 2048) (Inv : Nat → Mem → Prop) (hstep : ∀ (j : Nat) (c a1 a2 a3 : Int32) (σ : Mem), j < 512 → Inv j σ → wStep c a1 a2 a3 σ (Inv (j + 1))) (kend : ∀ (σ : Mem) (iv : Int32), Go K 603072 7202922 σ 2690 [some (.ref b), some (.ref (xad (fX K) 14 0)), some (.ref (xad (fX K) 15 0)), some (.ref (xad (fX K) 17 0)), some (.ref (xad (fX K) 18 0)), some (.int iv), none, none, none] []) : ∀ (m j cells slots : Nat) (σ : Mem), j + m = 512 → cells + m * 32 ≤ 603072 → slots + m * 9000 ≤ 7202922 → Inv j σ → Go K cells slots σ 28 [some (.ref b), some (.ref (xad (fX K) 14 0)), some (.ref (xad (fX K) 15 0)), some (.ref (xad (fX K) 17 0)), some (.ref (xad (fX K) 18 0)), some (.int (nI (4 * j))), none, none, none] [] := by
  intro m
  induction m with
  | zero =>
    intro j cells slots σ hj hc hs hi
    have hcl : (nI L).toInt = (L : Int) := nI_toInt (by omega)
    refine g_iload (np := 30) B.1 dL_law_28 rfl rfl ?_
    refine g_aload_n (np := 31) B.1 dL_law_30 rfl rfl ?_
    refine g_slen (np := 32) B dL_law_31 rfl ?_
    refine g_iconst (v := 4) (np := 33) B.1 dL_law_32 (by decide) rfl ?_
    refine g_isub (np := 34) B.1 dL_law_33 rfl ?_
    have e1 : (nI L - 4).toInt = (L : Int) - 4 := pk_sub_toInt (b := 4) (by omega) (by decide)
    have e2 : (nI (4 * j)).toInt = ((4 * j : Nat) : Int) := nI_toInt (by omega)
    refine g_icmp_gt (np := 37) (tgt := 2690) B.1 dL_law_34 (by decide) rfl (fun _ => Go.widen (by omega) (by omega) (kend σ _)) (fun q => ?_)
    rw [Int32.lt_iff_toInt_lt, e1, e2] at q
    exfalso
    omega
  | succ m ih =>
    intro j cells slots σ hj hc hs hi
    have hcl : (nI L).toInt = (L : Int) := nI_toInt (by omega)
    refine g_iload (np := 30) B.1 dL_law_28 rfl rfl ?_
    refine g_aload_n (np := 31) B.1 dL_law_30 rfl rfl ?_
    refine g_slen (np := 32) B dL_law_31 rfl ?_
    refine g_iconst (v := 4) (np := 33) B.1 dL_law_32 (by decide) rfl ?_
    refine g_isub (np := 34) B.1 dL_law_33 rfl ?_
    have e1 : (nI L - 4).toInt = (L : Int) - 4 := pk_sub_toInt (b := 4) (by omega) (by decide)
    have e2 : (nI (4 * j)).toInt = ((4 * j : Nat) : Int) := nI_toInt (by omega)
    refine g_icmp_gt (np := 37) (tgt := 2690) B.1 dL_law_34 (by decide) rfl (fun _ => Go.widen (by omega) (by omega) (kend σ _)) (fun q => ?_)
    rw [Int32.lt_iff_toInt_lt, e1, e2] at q
    have h0 : vp_in (nI (4 * j)) L := vp_in_nI (by omega) (by omega)
    have h1 : vp_in (nI (4 * j) + 1) L := by
      rw [show nI (4 * j) + 1 = nI (4 * j + 1) from nI_add _ 1]
      exact vp_in_nI (by omega) (by omega)
    have h2 : vp_in (nI (4 * j) + 2) L := by
      rw [show nI (4 * j) + 2 = nI (4 * j + 2) from nI_add _ 2]
      exact vp_in_nI (by omega) (by omega)
    have h3 : vp_in (nI (4 * j) + 3) L := by
      rw [show nI (4 * j) + 3 = nI (4 * j + 3) from nI_add _ 3]
      exact vp_in_nI (by omega) (by omega)
    refine g_aload_n (np := 38) B.1 dL_law_37 rfl rfl ?_
    refine g_iload (np := 40) B.1 dL_law_38 rfl rfl ?_
    refine g_sld (np := 41) B h0 dL_law_40 rfl ?_
    refine g_bipush (v := 63) (np := 43) B.1 dL_law_41 (by decide) rfl ?_
    refine g_iand (np := 44) B.1 dL_law_43 rfl ?_
    have hst := hstep j (xs (nI (4 * j)).toNatClampNeg) (xs (nI (4 * j) + 1).toNatClampNeg) (xs (nI (4 * j) + 2).toNatClampNeg) (xs (nI (4 * j) + 3).toNatClampNeg) σ (by omega) hi
    have knext : ∀ τ : Mem, Inv (j + 1) τ → Go K (cells + 32) (slots + 9000) τ 2684 [some (.ref b), some (.ref (xad (fX K) 14 0)), some (.ref (xad (fX K) 15 0)), some (.ref (xad (fX K) 17 0)), some (.ref (xad (fX K) 18 0)), some (.int (nI (4 * j))), none, none, none] [] := by
      intro τ hτ
      refine g_iinc (v := nI (4 * (j + 1))) (lv' := [some (.ref b), some (.ref (xad (fX K) 14 0)), some (.ref (xad (fX K) 15 0)), some (.ref (xad (fX K) 17 0)), some (.ref (xad (fX K) 18 0)), some (.int (nI (4 * (j + 1)))), none, none, none]) (np := 2687) B.1 dL_law_2684 rfl (show nI (4 * j) + nI 4 = _ from nI_add _ 4) (by decide) rfl rfl rfl ?_
      refine g_goto (tgt := 28) B.1 dL_law_2687 (by decide) ?_
      exact ih (j + 1) (cells + 32) (slots + 9000) τ (by omega) (by omega) (by omega) hτ
    unfold wStep at hst
    generalize xs (nI (4 * j)).toNatClampNeg &&& 63 = c at hst ⊢
    by_cases e9 : c = 0
    · refine g_tabIn (off := _) (tgt := 292) B.1 dL_law_44 (by rw [e9]; decide) (by rw [e9]; decide) (by rw [e9]; rfl) (by decide) ?_
      exact oC_0 B h1 rfl h2 rfl h3 rfl (hst.1 e9) (by omega) (by omega) knext
    have o_0 := i32_ne e9 (n := 0) (by decide)
    clear e9
    by_cases e9 : c = 1
    · refine g_tabIn (off := _) (tgt := 372) B.1 dL_law_44 (by rw [e9]; decide) (by rw [e9]; decide) (by rw [e9]; rfl) (by decide) ?_
      exact oC_1 B h1 rfl h2 rfl (hst.2.1 e9) (by omega) (by omega) knext
    have o_1 := i32_ne e9 (n := 1) (by decide)
    clear e9
    by_cases e9 : c = 2
    · refine g_tabIn (off := _) (tgt := 440) B.1 dL_law_44 (by rw [e9]; decide) (by rw [e9]; decide) (by rw [e9]; rfl) (by decide) ?_
      exact oC_2 B h1 rfl h2 rfl (hst.2.2.1 e9) (by omega) (by omega) knext
    have o_2 := i32_ne e9 (n := 2) (by decide)
    clear e9
    by_cases e9 : c = 3
    · refine g_tabIn (off := _) (tgt := 508) B.1 dL_law_44 (by rw [e9]; decide) (by rw [e9]; decide) (by rw [e9]; rfl) (by decide) ?_
      exact oC_3 B h1 rfl (hst.2.2.2.1 e9) (by omega) (by omega) knext
    have o_3 := i32_ne e9 (n := 3) (by decide)
    clear e9
    by_cases e9 : c = 4
    · refine g_tabIn (off := _) (tgt := 564) B.1 dL_law_44 (by rw [e9]; decide) (by rw [e9]; decide) (by rw [e9]; rfl) (by decide) ?_
      exact oC_4 B h1 rfl (hst.2.2.2.2.1 e9) (by omega) (by omega) knext
    have o_4 := i32_ne e9 (n := 4) (by decide)
    clear e9
    by_cases e9 : c = 5
    · refine g_tabIn (off := _) (tgt := 620) B.1 dL_law_44 (by rw [e9]; decide) (by rw [e9]; decide) (by rw [e9]; rfl) (by decide) ?_
      exact oC_5 B h1 rfl (hst.2.2.2.2.2.1 e9) (by omega) (by omega) knext
    have o_5 := i32_ne e9 (n := 5) (by decide)
    clear e9
    by_cases e9 : c = 6
    · refine g_tabIn (off := _) (tgt := 676) B.1 dL_law_44 (by rw [e9]; decide) (by rw [e9]; decide) (by rw [e9]; rfl) (by decide) ?_
      exact oC_6 B h1 rfl (hst.2.2.2.2.2.2.1 e9) (by omega) (by omega) knext
    have o_6 := i32_ne e9 (n := 6) (by decide)
    clear e9
    by_cases e9 : c = 7
    · refine g_tabIn (off := _) (tgt := 732) B.1 dL_law_44 (by rw [e9]; decide) (by rw [e9]; decide) (by rw [e9]; rfl) (by decide) ?_
      exact oC_7 B  (hst.2.2.2.2.2.2.2.1 e9) (by omega) (by omega) knext
    have o_7 := i32_ne e9 (n := 7) (by decide)
    clear e9
    by_cases e9 : c = 8
    · refine g_tabIn (off := _) (tgt := 776) B.1 dL_law_44 (by rw [e9]; decide) (by rw [e9]; decide) (by rw [e9]; rfl) (by decide) ?_
      exact oC_8 B h1 rfl (hst.2.2.2.2.2.2.2.2.1 e9) (by omega) (by omega) knext
    have o_8 := i32_ne e9 (n := 8) (by decide)
    clear e9
    by_cases e9 : c = 9
    · refine g_tabIn (off := _) (tgt := 832) B.1 dL_law_44 (by rw [e9]; decide) (by rw [e9]; decide) (by rw [e9]; rfl) (by decide) ?_
      exact oC_9 B  (hst.2.2.2.2.2.2.2.2.2.1 e9) (by omega) (by omega) knext
    have o_9 := i32_ne e9 (n := 9) (by decide)
    clear e9
    by_cases e9 : c = 10
    · refine g_tabIn (off := _) (tgt := 845) B.1 dL_law_44 (by rw [e9]; decide) (by rw [e9]; decide) (by rw [e9]; rfl) (by decide) ?_
      exact oC_10 B h1 rfl (hst.2.2.2.2.2.2.2.2.2.2.1 e9) (by omega) (by omega) knext
    have o_10 := i32_ne e9 (n := 10) (by decide)
    clear e9
    by_cases e9 : c = 11
    · refine g_tabIn (off := _) (tgt := 901) B.1 dL_law_44 (by rw [e9]; decide) (by rw [e9]; decide) (by rw [e9]; rfl) (by decide) ?_
      exact oC_11 B h1 rfl (hst.2.2.2.2.2.2.2.2.2.2.2.1 e9) (by omega) (by omega) knext
    have o_11 := i32_ne e9 (n := 11) (by decide)
    clear e9
    by_cases e9 : c = 12
    · refine g_tabIn (off := _) (tgt := 957) B.1 dL_law_44 (by rw [e9]; decide) (by rw [e9]; decide) (by rw [e9]; rfl) (by decide) ?_
      exact oC_12 B h1 rfl (hst.2.2.2.2.2.2.2.2.2.2.2.2.1 e9) (by omega) (by omega) knext
    have o_12 := i32_ne e9 (n := 12) (by decide)
    clear e9
    by_cases e9 : c = 13
    · refine g_tabIn (off := _) (tgt := 1013) B.1 dL_law_44 (by rw [e9]; decide) (by rw [e9]; decide) (by rw [e9]; rfl) (by decide) ?_
      exact oC_13 B h1 rfl (hst.2.2.2.2.2.2.2.2.2.2.2.2.2.1 e9) (by omega) (by omega) knext
    have o_13 := i32_ne e9 (n := 13) (by decide)
    clear e9
    by_cases e9 : c = 14
    · refine g_tabIn (off := _) (tgt := 1069) B.1 dL_law_44 (by rw [e9]; decide) (by rw [e9]; decide) (by rw [e9]; rfl) (by decide) ?_
      exact oC_14 B h1 rfl (hst.2.2.2.2.2.2.2.2.2.2.2.2.2.2.1 e9) (by omega) (by omega) knext
    have o_14 := i32_ne e9 (n := 14) (by decide)
    clear e9
    by_cases e9 : c = 15
    · refine g_tabIn (off := _) (tgt := 1125) B.1 dL_law_44 (by rw [e9]; decide) (by rw [e9]; decide) (by rw [e9]; rfl) (by decide) ?_
      exact oC_15 B h1 rfl h2 rfl (hst.2.2.2.2.2.2.2.2.2.2.2.2.2.2.2.1 e9) (by omega) (by omega) knext
    have o_15 := i32_ne e9 (n := 15) (by decide)
    clear e9
    by_cases e9 : c = 16
    · refine g_tabIn (off := _) (tgt := 1193) B.1 dL_law_44 (by rw [e9]; decide) (by rw [e9]; decide) (by rw [e9]; rfl) (by decide) ?_
      exact oC_16 B h1 rfl h2 rfl (hst.2.2.2.2.2.2.2.2.2.2.2.2.2.2.2.2.1 e9) (by omega) (by omega) knext
    have o_16 := i32_ne e9 (n := 16) (by decide)
    clear e9
    by_cases e9 : c = 17
    · refine g_tabIn (off := _) (tgt := 1261) B.1 dL_law_44 (by rw [e9]; decide) (by rw [e9]; decide) (by rw [e9]; rfl) (by decide) ?_
      exact oC_17 B h1 rfl h2 rfl h3 rfl (hst.2.2.2.2.2.2.2.2.2.2.2.2.2.2.2.2.2.1 e9) (by omega) (by omega) knext
    have o_17 := i32_ne e9 (n := 17) (by decide)
    clear e9
    by_cases e9 : c = 18
    · refine g_tabIn (off := _) (tgt := 1348) B.1 dL_law_44 (by rw [e9]; decide) (by rw [e9]; decide) (by rw [e9]; rfl) (by decide) ?_
      exact oC_18 B  (hst.2.2.2.2.2.2.2.2.2.2.2.2.2.2.2.2.2.2.1 e9) (by omega) (by omega) knext
    have o_18 := i32_ne e9 (n := 18) (by decide)
    clear e9
    by_cases e9 : c = 19
    · refine g_tabIn (off := _) (tgt := 1361) B.1 dL_law_44 (by rw [e9]; decide) (by rw [e9]; decide) (by rw [e9]; rfl) (by decide) ?_
      exact oC_19 B h1 rfl (hst.2.2.2.2.2.2.2.2.2.2.2.2.2.2.2.2.2.2.2.1 e9) (by omega) (by omega) knext
    have o_19 := i32_ne e9 (n := 19) (by decide)
    clear e9
    by_cases e9 : c = 20
    · refine g_tabIn (off := _) (tgt := 1417) B.1 dL_law_44 (by rw [e9]; decide) (by rw [e9]; decide) (by rw [e9]; rfl) (by decide) ?_
      exact oC_20 B h1 rfl (hst.2.2.2.2.2.2.2.2.2.2.2.2.2.2.2.2.2.2.2.2.1 e9) (by omega) (by omega) knext
    have o_20 := i32_ne e9 (n := 20) (by decide)
    clear e9
    by_cases e9 : c = 21
    · refine g_tabIn (off := _) (tgt := 1473) B.1 dL_law_44 (by rw [e9]; decide) (by rw [e9]; decide) (by rw [e9]; rfl) (by decide) ?_
      exact oC_21 B h1 rfl (hst.2.2.2.2.2.2.2.2.2.2.2.2.2.2.2.2.2.2.2.2.2.1 e9) (by omega) (by omega) knext
    have o_21 := i32_ne e9 (n := 21) (by decide)
    clear e9
    by_cases e9 : c = 22
    · refine g_tabIn (off := _) (tgt := 1529) B.1 dL_law_44 (by rw [e9]; decide) (by rw [e9]; decide) (by rw [e9]; rfl) (by decide) ?_
      exact oC_22 B h1 rfl (hst.2.2.2.2.2.2.2.2.2.2.2.2.2.2.2.2.2.2.2.2.2.2.1 e9) (by omega) (by omega) knext
    have o_22 := i32_ne e9 (n := 22) (by decide)
    clear e9
    by_cases e9 : c = 23
    · refine g_tabIn (off := _) (tgt := 1585) B.1 dL_law_44 (by rw [e9]; decide) (by rw [e9]; decide) (by rw [e9]; rfl) (by decide) ?_
      exact oC_23 B h1 rfl (hst.2.2.2.2.2.2.2.2.2.2.2.2.2.2.2.2.2.2.2.2.2.2.2.1 e9) (by omega) (by omega) knext
    have o_23 := i32_ne e9 (n := 23) (by decide)
    clear e9
    by_cases e9 : c = 24
    · refine g_tabIn (off := _) (tgt := 1648) B.1 dL_law_44 (by rw [e9]; decide) (by rw [e9]; decide) (by rw [e9]; rfl) (by decide) ?_
      exact oC_24 B  (hst.2.2.2.2.2.2.2.2.2.2.2.2.2.2.2.2.2.2.2.2.2.2.2.2.1 e9) (by omega) (by omega) knext
    have o_24 := i32_ne e9 (n := 24) (by decide)
    clear e9
    by_cases e9 : c = 25
    · refine g_tabIn (off := _) (tgt := 1661) B.1 dL_law_44 (by rw [e9]; decide) (by rw [e9]; decide) (by rw [e9]; rfl) (by decide) ?_
      exact oC_25 B h1 rfl (hst.2.2.2.2.2.2.2.2.2.2.2.2.2.2.2.2.2.2.2.2.2.2.2.2.2.1 e9) (by omega) (by omega) knext
    have o_25 := i32_ne e9 (n := 25) (by decide)
    clear e9
    by_cases e9 : c = 26
    · refine g_tabIn (off := _) (tgt := 1717) B.1 dL_law_44 (by rw [e9]; decide) (by rw [e9]; decide) (by rw [e9]; rfl) (by decide) ?_
      exact oC_26 B  (hst.2.2.2.2.2.2.2.2.2.2.2.2.2.2.2.2.2.2.2.2.2.2.2.2.2.2.1 e9) (by omega) (by omega) knext
    have o_26 := i32_ne e9 (n := 26) (by decide)
    clear e9
    by_cases e9 : c = 27
    · refine g_tabIn (off := _) (tgt := 1730) B.1 dL_law_44 (by rw [e9]; decide) (by rw [e9]; decide) (by rw [e9]; rfl) (by decide) ?_
      exact oC_27 B  (hst.2.2.2.2.2.2.2.2.2.2.2.2.2.2.2.2.2.2.2.2.2.2.2.2.2.2.2.1 e9) (by omega) (by omega) knext
    have o_27 := i32_ne e9 (n := 27) (by decide)
    clear e9
    by_cases e9 : c = 28
    · refine g_tabIn (off := _) (tgt := 1743) B.1 dL_law_44 (by rw [e9]; decide) (by rw [e9]; decide) (by rw [e9]; rfl) (by decide) ?_
      exact oC_28 B  (hst.2.2.2.2.2.2.2.2.2.2.2.2.2.2.2.2.2.2.2.2.2.2.2.2.2.2.2.2.1 e9) (by omega) (by omega) knext
    have o_28 := i32_ne e9 (n := 28) (by decide)
    clear e9
    by_cases e9 : c = 29
    · refine g_tabIn (off := _) (tgt := 1756) B.1 dL_law_44 (by rw [e9]; decide) (by rw [e9]; decide) (by rw [e9]; rfl) (by decide) ?_
      exact oC_29 B h1 rfl (hst.2.2.2.2.2.2.2.2.2.2.2.2.2.2.2.2.2.2.2.2.2.2.2.2.2.2.2.2.2.1 e9) (by omega) (by omega) knext
    have o_29 := i32_ne e9 (n := 29) (by decide)
    clear e9
    by_cases e9 : c = 30
    · refine g_tabIn (off := _) (tgt := 1812) B.1 dL_law_44 (by rw [e9]; decide) (by rw [e9]; decide) (by rw [e9]; rfl) (by decide) ?_
      exact oC_30 B  (hst.2.2.2.2.2.2.2.2.2.2.2.2.2.2.2.2.2.2.2.2.2.2.2.2.2.2.2.2.2.2.1 e9) (by omega) (by omega) knext
    have o_30 := i32_ne e9 (n := 30) (by decide)
    clear e9
    by_cases e9 : c = 31
    · refine g_tabIn (off := _) (tgt := 1856) B.1 dL_law_44 (by rw [e9]; decide) (by rw [e9]; decide) (by rw [e9]; rfl) (by decide) ?_
      exact oC_31 B h1 rfl (hst.2.2.2.2.2.2.2.2.2.2.2.2.2.2.2.2.2.2.2.2.2.2.2.2.2.2.2.2.2.2.2.1 e9) (by omega) (by omega) knext
    have o_31 := i32_ne e9 (n := 31) (by decide)
    clear e9
    by_cases e9 : c = 32
    · refine g_tabIn (off := _) (tgt := 1912) B.1 dL_law_44 (by rw [e9]; decide) (by rw [e9]; decide) (by rw [e9]; rfl) (by decide) ?_
      exact oC_32 B h1 rfl (hst.2.2.2.2.2.2.2.2.2.2.2.2.2.2.2.2.2.2.2.2.2.2.2.2.2.2.2.2.2.2.2.2.1 e9) (by omega) (by omega) knext
    have o_32 := i32_ne e9 (n := 32) (by decide)
    clear e9
    by_cases e9 : c = 33
    · refine g_tabIn (off := _) (tgt := 1968) B.1 dL_law_44 (by rw [e9]; decide) (by rw [e9]; decide) (by rw [e9]; rfl) (by decide) ?_
      exact oC_33 B  (hst.2.2.2.2.2.2.2.2.2.2.2.2.2.2.2.2.2.2.2.2.2.2.2.2.2.2.2.2.2.2.2.2.2.1 e9) (by omega) (by omega) knext
    have o_33 := i32_ne e9 (n := 33) (by decide)
    clear e9
    by_cases e9 : c = 34
    · refine g_tabIn (off := _) (tgt := 1981) B.1 dL_law_44 (by rw [e9]; decide) (by rw [e9]; decide) (by rw [e9]; rfl) (by decide) ?_
      exact oC_34 B  (hst.2.2.2.2.2.2.2.2.2.2.2.2.2.2.2.2.2.2.2.2.2.2.2.2.2.2.2.2.2.2.2.2.2.2.1 e9) (by omega) (by omega) knext
    have o_34 := i32_ne e9 (n := 34) (by decide)
    clear e9
    by_cases e9 : c = 35
    · refine g_tabIn (off := _) (tgt := 1994) B.1 dL_law_44 (by rw [e9]; decide) (by rw [e9]; decide) (by rw [e9]; rfl) (by decide) ?_
      exact oC_35 B  (hst.2.2.2.2.2.2.2.2.2.2.2.2.2.2.2.2.2.2.2.2.2.2.2.2.2.2.2.2.2.2.2.2.2.2.2.1 e9) (by omega) (by omega) knext
    have o_35 := i32_ne e9 (n := 35) (by decide)
    clear e9
    by_cases e9 : c = 36
    · refine g_tabIn (off := _) (tgt := 2007) B.1 dL_law_44 (by rw [e9]; decide) (by rw [e9]; decide) (by rw [e9]; rfl) (by decide) ?_
      exact oC_36 B  (hst.2.2.2.2.2.2.2.2.2.2.2.2.2.2.2.2.2.2.2.2.2.2.2.2.2.2.2.2.2.2.2.2.2.2.2.2.1 e9) (by omega) (by omega) knext
    have o_36 := i32_ne e9 (n := 36) (by decide)
    clear e9
    by_cases e9 : c = 37
    · refine g_tabIn (off := _) (tgt := 2020) B.1 dL_law_44 (by rw [e9]; decide) (by rw [e9]; decide) (by rw [e9]; rfl) (by decide) ?_
      exact oC_37 B  (hst.2.2.2.2.2.2.2.2.2.2.2.2.2.2.2.2.2.2.2.2.2.2.2.2.2.2.2.2.2.2.2.2.2.2.2.2.2.1 e9) (by omega) (by omega) knext
    have o_37 := i32_ne e9 (n := 37) (by decide)
    clear e9
    by_cases e9 : c = 38
    · refine g_tabIn (off := _) (tgt := 2033) B.1 dL_law_44 (by rw [e9]; decide) (by rw [e9]; decide) (by rw [e9]; rfl) (by decide) ?_
      exact oC_38 B  (hst.2.2.2.2.2.2.2.2.2.2.2.2.2.2.2.2.2.2.2.2.2.2.2.2.2.2.2.2.2.2.2.2.2.2.2.2.2.2.1 e9) (by omega) (by omega) knext
    have o_38 := i32_ne e9 (n := 38) (by decide)
    clear e9
    by_cases e9 : c = 39
    · refine g_tabIn (off := _) (tgt := 2046) B.1 dL_law_44 (by rw [e9]; decide) (by rw [e9]; decide) (by rw [e9]; rfl) (by decide) ?_
      exact oC_39 B  (hst.2.2.2.2.2.2.2.2.2.2.2.2.2.2.2.2.2.2.2.2.2.2.2.2.2.2.2.2.2.2.2.2.2.2.2.2.2.2.2.1 e9) (by omega) (by omega) knext
    have o_39 := i32_ne e9 (n := 39) (by decide)
    clear e9
    by_cases e9 : c = 40
    · refine g_tabIn (off := _) (tgt := 2059) B.1 dL_law_44 (by rw [e9]; decide) (by rw [e9]; decide) (by rw [e9]; rfl) (by decide) ?_
      exact oC_40 B  (hst.2.2.2.2.2.2.2.2.2.2.2.2.2.2.2.2.2.2.2.2.2.2.2.2.2.2.2.2.2.2.2.2.2.2.2.2.2.2.2.2.1 e9) (by omega) (by omega) knext
    have o_40 := i32_ne e9 (n := 40) (by decide)
    clear e9
    by_cases e9 : c = 41
    · refine g_tabIn (off := _) (tgt := 2072) B.1 dL_law_44 (by rw [e9]; decide) (by rw [e9]; decide) (by rw [e9]; rfl) (by decide) ?_
      exact oC_41 B  (hst.2.2.2.2.2.2.2.2.2.2.2.2.2.2.2.2.2.2.2.2.2.2.2.2.2.2.2.2.2.2.2.2.2.2.2.2.2.2.2.2.2.1 e9) (by omega) (by omega) knext
    have o_41 := i32_ne e9 (n := 41) (by decide)
    clear e9
    by_cases e9 : c = 42
    · refine g_tabIn (off := _) (tgt := 2085) B.1 dL_law_44 (by rw [e9]; decide) (by rw [e9]; decide) (by rw [e9]; rfl) (by decide) ?_
      exact oC_42 B  (hst.2.2.2.2.2.2.2.2.2.2.2.2.2.2.2.2.2.2.2.2.2.2.2.2.2.2.2.2.2.2.2.2.2.2.2.2.2.2.2.2.2.2.1 e9) (by omega) (by omega) knext
    have o_42 := i32_ne e9 (n := 42) (by decide)
    clear e9
    by_cases e9 : c = 43
    · refine g_tabIn (off := _) (tgt := 2098) B.1 dL_law_44 (by rw [e9]; decide) (by rw [e9]; decide) (by rw [e9]; rfl) (by decide) ?_
      exact oC_43 B  (hst.2.2.2.2.2.2.2.2.2.2.2.2.2.2.2.2.2.2.2.2.2.2.2.2.2.2.2.2.2.2.2.2.2.2.2.2.2.2.2.2.2.2.2.1 e9) (by omega) (by omega) knext
    have o_43 := i32_ne e9 (n := 43) (by decide)
    clear e9
    by_cases e9 : c = 44
    · refine g_tabIn (off := _) (tgt := 2111) B.1 dL_law_44 (by rw [e9]; decide) (by rw [e9]; decide) (by rw [e9]; rfl) (by decide) ?_
      exact oC_44 B  (hst.2.2.2.2.2.2.2.2.2.2.2.2.2.2.2.2.2.2.2.2.2.2.2.2.2.2.2.2.2.2.2.2.2.2.2.2.2.2.2.2.2.2.2.2.1 e9) (by omega) (by omega) knext
    have o_44 := i32_ne e9 (n := 44) (by decide)
    clear e9
    by_cases e9 : c = 45
    · refine g_tabIn (off := _) (tgt := 2124) B.1 dL_law_44 (by rw [e9]; decide) (by rw [e9]; decide) (by rw [e9]; rfl) (by decide) ?_
      exact oC_45 B  (hst.2.2.2.2.2.2.2.2.2.2.2.2.2.2.2.2.2.2.2.2.2.2.2.2.2.2.2.2.2.2.2.2.2.2.2.2.2.2.2.2.2.2.2.2.2.1 e9) (by omega) (by omega) knext
    have o_45 := i32_ne e9 (n := 45) (by decide)
    clear e9
    by_cases e9 : c = 46
    · refine g_tabIn (off := _) (tgt := 2189) B.1 dL_law_44 (by rw [e9]; decide) (by rw [e9]; decide) (by rw [e9]; rfl) (by decide) ?_
      exact oC_46 B  (hst.2.2.2.2.2.2.2.2.2.2.2.2.2.2.2.2.2.2.2.2.2.2.2.2.2.2.2.2.2.2.2.2.2.2.2.2.2.2.2.2.2.2.2.2.2.2.1 e9) (by omega) (by omega) knext
    have o_46 := i32_ne e9 (n := 46) (by decide)
    clear e9
    by_cases e9 : c = 47
    · refine g_tabIn (off := _) (tgt := 2255) B.1 dL_law_44 (by rw [e9]; decide) (by rw [e9]; decide) (by rw [e9]; rfl) (by decide) ?_
      exact oC_47 B  (hst.2.2.2.2.2.2.2.2.2.2.2.2.2.2.2.2.2.2.2.2.2.2.2.2.2.2.2.2.2.2.2.2.2.2.2.2.2.2.2.2.2.2.2.2.2.2.2.1 e9) (by omega) (by omega) knext
    have o_47 := i32_ne e9 (n := 47) (by decide)
    clear e9
    by_cases e9 : c = 48
    · refine g_tabIn (off := _) (tgt := 2268) B.1 dL_law_44 (by rw [e9]; decide) (by rw [e9]; decide) (by rw [e9]; rfl) (by decide) ?_
      exact oC_48 B  (hst.2.2.2.2.2.2.2.2.2.2.2.2.2.2.2.2.2.2.2.2.2.2.2.2.2.2.2.2.2.2.2.2.2.2.2.2.2.2.2.2.2.2.2.2.2.2.2.2.1 e9) (by omega) (by omega) knext
    have o_48 := i32_ne e9 (n := 48) (by decide)
    clear e9
    by_cases e9 : c = 49
    · refine g_tabIn (off := _) (tgt := 2281) B.1 dL_law_44 (by rw [e9]; decide) (by rw [e9]; decide) (by rw [e9]; rfl) (by decide) ?_
      exact oC_49 B h1 rfl (hst.2.2.2.2.2.2.2.2.2.2.2.2.2.2.2.2.2.2.2.2.2.2.2.2.2.2.2.2.2.2.2.2.2.2.2.2.2.2.2.2.2.2.2.2.2.2.2.2.2.1 e9) (by omega) (by omega) knext
    have o_49 := i32_ne e9 (n := 49) (by decide)
    clear e9
    by_cases e9 : c = 50
    · refine g_tabIn (off := _) (tgt := 2337) B.1 dL_law_44 (by rw [e9]; decide) (by rw [e9]; decide) (by rw [e9]; rfl) (by decide) ?_
      exact oC_50 B h1 rfl (hst.2.2.2.2.2.2.2.2.2.2.2.2.2.2.2.2.2.2.2.2.2.2.2.2.2.2.2.2.2.2.2.2.2.2.2.2.2.2.2.2.2.2.2.2.2.2.2.2.2.2.1 e9) (by omega) (by omega) knext
    have o_50 := i32_ne e9 (n := 50) (by decide)
    clear e9
    by_cases e9 : c = 51
    · refine g_tabIn (off := _) (tgt := 2393) B.1 dL_law_44 (by rw [e9]; decide) (by rw [e9]; decide) (by rw [e9]; rfl) (by decide) ?_
      exact oC_51 B h1 rfl (hst.2.2.2.2.2.2.2.2.2.2.2.2.2.2.2.2.2.2.2.2.2.2.2.2.2.2.2.2.2.2.2.2.2.2.2.2.2.2.2.2.2.2.2.2.2.2.2.2.2.2.2.1 e9) (by omega) (by omega) knext
    have o_51 := i32_ne e9 (n := 51) (by decide)
    clear e9
    by_cases e9 : c = 52
    · refine g_tabIn (off := _) (tgt := 2451) B.1 dL_law_44 (by rw [e9]; decide) (by rw [e9]; decide) (by rw [e9]; rfl) (by decide) ?_
      exact oC_52 B  (hst.2.2.2.2.2.2.2.2.2.2.2.2.2.2.2.2.2.2.2.2.2.2.2.2.2.2.2.2.2.2.2.2.2.2.2.2.2.2.2.2.2.2.2.2.2.2.2.2.2.2.2.2.1 e9) (by omega) (by omega) knext
    have o_52 := i32_ne e9 (n := 52) (by decide)
    clear e9
    by_cases e9 : c = 53
    · refine g_tabIn (off := _) (tgt := 2495) B.1 dL_law_44 (by rw [e9]; decide) (by rw [e9]; decide) (by rw [e9]; rfl) (by decide) ?_
      exact oC_53 B  (hst.2.2.2.2.2.2.2.2.2.2.2.2.2.2.2.2.2.2.2.2.2.2.2.2.2.2.2.2.2.2.2.2.2.2.2.2.2.2.2.2.2.2.2.2.2.2.2.2.2.2.2.2.2.1 e9) (by omega) (by omega) knext
    have o_53 := i32_ne e9 (n := 53) (by decide)
    clear e9
    by_cases e9 : c = 54
    · refine g_tabIn (off := _) (tgt := 2539) B.1 dL_law_44 (by rw [e9]; decide) (by rw [e9]; decide) (by rw [e9]; rfl) (by decide) ?_
      exact oC_54 B  (hst.2.2.2.2.2.2.2.2.2.2.2.2.2.2.2.2.2.2.2.2.2.2.2.2.2.2.2.2.2.2.2.2.2.2.2.2.2.2.2.2.2.2.2.2.2.2.2.2.2.2.2.2.2.2.1 e9) (by omega) (by omega) knext
    have o_54 := i32_ne e9 (n := 54) (by decide)
    clear e9
    by_cases e9 : c = 55
    · refine g_tabIn (off := _) (tgt := 2583) B.1 dL_law_44 (by rw [e9]; decide) (by rw [e9]; decide) (by rw [e9]; rfl) (by decide) ?_
      exact oC_55 B  (hst.2.2.2.2.2.2.2.2.2.2.2.2.2.2.2.2.2.2.2.2.2.2.2.2.2.2.2.2.2.2.2.2.2.2.2.2.2.2.2.2.2.2.2.2.2.2.2.2.2.2.2.2.2.2.2.1 e9) (by omega) (by omega) knext
    have o_55 := i32_ne e9 (n := 55) (by decide)
    clear e9
    by_cases e9 : c = 56
    · refine g_tabIn (off := _) (tgt := 2627) B.1 dL_law_44 (by rw [e9]; decide) (by rw [e9]; decide) (by rw [e9]; rfl) (by decide) ?_
      exact oC_56 B  (hst.2.2.2.2.2.2.2.2.2.2.2.2.2.2.2.2.2.2.2.2.2.2.2.2.2.2.2.2.2.2.2.2.2.2.2.2.2.2.2.2.2.2.2.2.2.2.2.2.2.2.2.2.2.2.2.2.1 e9) (by omega) (by omega) knext
    have o_56 := i32_ne e9 (n := 56) (by decide)
    clear e9
    by_cases e9 : c = 57
    · refine g_tabIn (off := _) (tgt := 2640) B.1 dL_law_44 (by rw [e9]; decide) (by rw [e9]; decide) (by rw [e9]; rfl) (by decide) ?_
      exact oC_57 B  (hst.2.2.2.2.2.2.2.2.2.2.2.2.2.2.2.2.2.2.2.2.2.2.2.2.2.2.2.2.2.2.2.2.2.2.2.2.2.2.2.2.2.2.2.2.2.2.2.2.2.2.2.2.2.2.2.2.2.1 e9) (by omega) (by omega) knext
    have o_57 := i32_ne e9 (n := 57) (by decide)
    clear e9
    refine g_tabOut (tgt := 2684) B.1 dL_law_44 (by omega) (by decide) ?_
    exact Go.widen (by omega) (by omega) (knext σ hst.2.2.2.2.2.2.2.2.2.2.2.2.2.2.2.2.2.2.2.2.2.2.2.2.2.2.2.2.2.2.2.2.2.2.2.2.2.2.2.2.2.2.2.2.2.2.2.2.2.2.2.2.2.2.2.2.2.2)
