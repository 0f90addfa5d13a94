/-! THE START: the statics -/
theorem tab_on {w : Cond} (h : tabW w = true) : w.onTables = true := by
  cases w <;> simp only [tabW, Bool.false_eq_true] at h <;> rfl
theorem nI_u (v : Int32) : nI v.toUInt32.toNat = v := by
  show (⟨UInt32.ofNat v.toUInt32.toNat⟩ : Int32) = v
  rw [UInt32.ofNat_toNat]
set_option maxRecDepth 100000 in
set_option maxHeartbeats 0 in
theorem stat_of {s : State} {b L : Nat} {xs : Nat → Int32} (hts : ∀ w ∈ lw_tbl, w.before #[Value.ref b] s = true) (hgv : (Jvm.Cond.and given_1 narrow_1).before #[Value.ref b] s = true) (hX : va_X b L xs s s.heap) (hbl : b < s.heap.size) (hnc : NCs s) (hao : AOs s) :
    ∃ xe : Nat → Nat → Nat, (∀ j : Nat, xe 30 j = 0) ∧ xe 5 0 = b ∧ ∀ x : Ctx, xb x = s.heap.size → xen x = xe → scr x = (L, xs) ∧ Stat x s s.heap := by
  have hs : ∀ c ∈ gvL, c.before #[Value.ref b] s = true := flat_of_before _ hgv
  obtain ⟨A, hAe⟩ : ∃ A : Nat → Prop, A = fun q => s.heap.size ≤ q := ⟨_, rfl⟩
  have hA : ∀ a : Nat, a < s.heap.size → ¬ A a := fun a h => by rw [hAe]; exact Nat.not_le.mpr h
  obtain ⟨aC, hC, hCe⟩ := va_Enof2 (E := "YarnMill$Command") (d := "LYarnMill$Command;") (nm := cmNames) (F := cmF) (A := A) (fun i hi => hts _ (tb_c i hi)) (hts _ (tb_i _ (by decide))) (fun i hi => hs _ (gv_c1 i hi)) (fun q hq i hi => hs _ (gv_c2 q hq i hi)) (fun i j hi hj hn => (gv_c3 i hi j hj hn).imp (hs _) (hs _)) hA
  obtain ⟨aR, hR, -⟩ := va_Enof2 (E := "YarnMill$Refusal") (d := "LYarnMill$Refusal;") (nm := rfNames) (F := []) (A := A) (fun i hi => hts _ (tb_r i hi)) (hts _ (tb_i _ (by decide))) (fun i hi => hs _ (gv_r1 i hi)) (fun q hq => absurd hq List.not_mem_nil) (fun i j hi hj hn => (gv_r3 i hi j hj hn).imp (hs _) (hs _)) hA
  obtain ⟨tS, hSe, hST⟩ := va_Tof (tm := tSw) (ty := .int) (N := 9) (f := fun j => .int (nI (j + 1))) (A := A) (by decide) (hs _ gv_sw.1) (va_eqt (hs _ gv_sw.2.1)) (fun j hj => va_eqt (hs _ (gv_sw.2.2 j hj))) hA
  obtain ⟨tA, hAle, hAT⟩ := va_Tof (tm := tAl) (ty := .object "YarnMill$Command") (N := 9) (f := fun j => .ref (aC j)) (A := A) (by decide) (hs _ gv_al.1) (va_eqt (hs _ gv_al.2.1)) (fun j hj => va_eqv (hs _ (gv_al.2.2 j hj)) (hCe j hj)) hA
  obtain ⟨tO, hOe, hOT⟩ := va_Tof (tm := tDo) (ty := .byte) (N := 100) (f := fun j => .int (digOnes j)) (A := A) (by decide) (hs _ gv_do.1) (va_eqt (hs _ gv_do.2.1)) (fun j hj => va_eqt (hs _ (gv_do.2.2 j hj))) hA
  obtain ⟨tT, hTe, hTT⟩ := va_Tof (tm := tDt) (ty := .byte) (N := 100) (f := fun j => .int (digTens j)) (A := A) (by decide) (hs _ gv_dt.1) (va_eqt (hs _ gv_dt.2.1)) (fun j hj => va_eqt (hs _ (gv_dt.2.2 j hj))) hA
  have h0 : ∀ i : Nat, ∃ q : Nat × Nat, i < 18 → (tSt i).eval #[Value.ref b] s none [] s = some (.ref q.1) ∧ va_O "java/lang/String" q.1 A s s.heap ∧ va_OF "java/lang/String" "coder" "B" (.int 0) q.1 A s s.heap ∧ va_OF "java/lang/String" "value" "[B" (.ref q.2) q.1 A s s.heap ∧ va_T .byte q.2 (stLen.getD i 0) (fun j => .int ((stByt.getD i []).getD j 0)) A s s.heap := by
    intro i
    by_cases hi : i < 18
    · obtain ⟨a, c, cA, kA, q1, q2, q3, q4, q5, q6, -⟩ := Cond.exactly_spec (args := #[Value.ref b]) (first := s) (o := none) (s := s) (idx := []) (t := tSt i) (cls := "java/lang/String") (hs _ (gv_s1 i hi).1)
      have hlen : stLen.getD i 0 < 2 ^ 31 := by
        have : ∀ i : Nat, i < 18 → stLen.getD i 0 < 2 ^ 31 := by decide
        exact this i hi
      obtain ⟨t, ht, hT⟩ := va_Tof (tm := .field (tSt i) "java/lang/String" "value" "[B") (ty := .byte) (N := stLen.getD i 0) (f := fun j => .int ((stByt.getD i []).getD j 0)) (A := A) hlen (hs _ (gv_s1 i hi).2.2.1) (va_eqt (hs _ (gv_s1 i hi).2.2.2)) (fun j hj => va_eqt (hs _ (gv_s2 i hi j hj))) hA
      exact ⟨(a, t), fun _ => ⟨q1, ⟨cA, q3, q5, by rw [q6]; exact q2, hA a (Array.getElem?_eq_some_iff.mp q3).1⟩, vk_OFof q1 (va_eqt (hs _ (gv_s1 i hi).2.1)) hA, vk_OFof q1 ht hA, hT⟩⟩
    · exact ⟨(0, 0), fun h => absurd h hi⟩
  obtain ⟨ad, had⟩ := Classical.axiomOfChoice h0
  have hW := va_Efof (N := 9) (E := "YarnMill$Command") (d0 := "LYarnMill$Command;") (o := "YarnMill$Command") (n := "word") (d := "Ljava/lang/String;") (nm := cmNames) (v := fun j => .ref (ad j).1) (tm := tSt) (ad := aC) (A := A) (fun i hi => hCe i hi) (fun i hi => hs _ (gv_w i hi)) (fun i hi => (had i (by omega)).1) hA
  refine ⟨fun f i => match f with
    | 0 => aC i
    | 1 => aR i
    | 2 => (match i with | 0 => tS | 1 => tA | 2 => tO | _ => tT)
    | 3 => (ad i).1
    | 4 => (ad i).2
    | 5 => (match i with | 0 => b | _ => L)
    | 6 => (xs i).toUInt32.toNat
    | _ => 0, fun _ => rfl, rfl, fun x hxb hxe => ?_⟩
  have hXA : XA x = A := by
    rw [hAe, ← hxb]
    rfl
  have hsc : scr x = (L, xs) := by
    unfold scr
    rw [hxe]
    exact congrArg (Prod.mk L) (funext fun j => nI_u (xs j))
  refine ⟨hsc, ?_⟩
  unfold Stat Stat2 StrA More
  rw [hXA, hsc, hxe]
  refine ⟨hC, hR, ⟨va_Zref (hts _ tb_l.1) (hts _ (tb_i _ (by decide))) hSe hA, hST⟩, ⟨va_Zref (hts _ tb_l.2.1) (hts _ (tb_i _ (by decide))) hAle hA, hAT⟩, fun w hw ht => va_Nw.of (tab_on ht) (hts w hw), ?_⟩
  refine ⟨fun i hi => (had i hi).2, fun i hi => vk_R.of (hts _ (tb_s i hi)) (had i hi).1, fun j hj => hW j hj, fun q hq => ?_, vx_Zqof (hts _ tb_l.2.2.2.2.2.1) (hts _ (tb_i _ (by decide))) (hs _ gv_z.1) hA, vx_Zqof (hts _ tb_l.2.2.2.2.2.2.1) (hts _ (tb_i _ (by decide))) (hs _ gv_z.2.1) hA,
    va_Zof (hts _ tb_l.2.2.2.2.1) (hts _ (tb_i _ (by decide))) (va_eqt (hs _ gv_z.2.2.2)) hA, ⟨va_Zref (hts _ tb_l.2.2.1) (hts _ (tb_i _ (by decide))) hOe hA, hOT⟩, ⟨va_Zref (hts _ tb_l.2.2.2.1) (hts _ (tb_i _ (by decide))) hTe hA, hTT⟩, va_Zqof (hts _ tb_l.2.2.2.2.2.2.2) (hts _ (tb_i _ (by decide))) (hs _ gv_z.2.2.1) hA, hnc, hao, ?_⟩
  rotate_left
  · obtain ⟨cell, g1, g2, g3, g4, g5⟩ := hX
    exact ⟨cell, g1, g2, g3, Nat.le_of_eq g4.symm, by rw [g4], g5, hA b hbl⟩
  obtain ⟨a, c, cA, kA, q1, -⟩ := Cond.exactly_spec (args := #[Value.ref b]) (first := s) (o := none) (s := s) (idx := []) (t := .string "YarnMill" q.1) (cls := "java/lang/String") (hs _ (gv_ex q hq))
  exact ⟨a, vk_R.of (hts _ (tb_e q hq)) q1⟩
theorem ncs_of {s : State} {b : Nat} (hgv : (Jvm.Cond.and given_1 narrow_1).before #[Value.ref b] s = true) : NCs s := fun a ha c hc hn => va_Nc.of (flat_of_before _ hgv _ (gv_nc a ha c hc hn))
theorem aos_of {s : State} {b : Nat} (hts : ∀ w ∈ lw_tbl, w.before #[Value.ref b] s = true) : AOs s := ⟨va_AO.of (hts _ tb_ao.1), va_AO.of (hts _ tb_ao.2)⟩
set_option maxRecDepth 100000 in
set_option maxHeartbeats 0 in
theorem good_of {s : State} {b : Nat} (hts : ∀ w ∈ lw_tbl, w.before #[Value.ref b] s = true) : ∀ w ∈ lw_good, w.before #[Value.ref b] s = true := by
  intro w hw
  rcases List.mem_append.mp (List.mem_filter.mp hw).1 with h | h
  · obtain ⟨y, hy, rfl⟩ := List.mem_map.mp h
    obtain ⟨h1, h2, h3⟩ := tb_p y hy
    exact sel_priv (y0 := yJ5_isLatin1_aae02) (by rw [h3]; decide) (hts _ tb_q.1) (h3.trans rfl) (hts _ tb_q.2) (hts _ h1) (hts _ h2)
  · exact hts w h
