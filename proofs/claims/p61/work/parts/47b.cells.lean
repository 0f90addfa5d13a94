/-! THE CELLS OF THE START -/
section LAYC
variable (D : va_G) (ct : Nat → ClassId) (hb : Nat) (xe : Nat → Nat → Nat)
theorem lcat {f : Nat × Nat → va_E} {a b : List va_E} {l m : List (Nat × Nat)} (h1 : a = l.map f) (h2 : b = m.map f) : a ++ b = (l ++ m).map f := by rw [h1, h2, List.map_append]
theorem lcns {f : Nat × Nat → va_E} {a : va_E} {b : List va_E} {q : Nat × Nat} {m : List (Nat × Nat)} (h1 : a = f q) (h2 : b = m.map f) : a :: b = (q :: m).map f := by rw [h1, h2, List.map_cons]
set_option maxRecDepth 100000 in
set_option maxHeartbeats 2000000 in
theorem ly_s0 : mkStock (ctx0 D ct hb xe) (0 + 1) = (stkK 0).map (el0 (ctx0 D ct hb xe) (mem0 hb)) := rfl
set_option maxRecDepth 100000 in
set_option maxHeartbeats 2000000 in
theorem ly_s1 : mkStock (ctx0 D ct hb xe) (0 + 24) = (stkK 1).map (el0 (ctx0 D ct hb xe) (mem0 hb)) := rfl
set_option maxRecDepth 100000 in
set_option maxHeartbeats 2000000 in
theorem ly_s2 : mkStock (ctx0 D ct hb xe) (0 + 47) = (stkK 2).map (el0 (ctx0 D ct hb xe) (mem0 hb)) := rfl
set_option maxRecDepth 100000 in
set_option maxHeartbeats 2000000 in
theorem ly_s3 : mkStock (ctx0 D ct hb xe) (0 + 70 + 2 + 23 * 0) = (stkK 3).map (el0 (ctx0 D ct hb xe) (mem0 hb)) := rfl
set_option maxRecDepth 100000 in
set_option maxHeartbeats 2000000 in
theorem ly_s4 : mkStock (ctx0 D ct hb xe) (0 + 70 + 2 + 23 * 1) = (stkK 4).map (el0 (ctx0 D ct hb xe) (mem0 hb)) := rfl
set_option maxRecDepth 100000 in
set_option maxHeartbeats 2000000 in
theorem ly_s5 : mkStock (ctx0 D ct hb xe) (0 + 70 + 2 + 23 * 2) = (stkK 5).map (el0 (ctx0 D ct hb xe) (mem0 hb)) := rfl
set_option maxRecDepth 100000 in
set_option maxHeartbeats 2000000 in
theorem ly_s6 : mkStock (ctx0 D ct hb xe) (0 + 70 + 2 + 23 * 3) = (stkK 6).map (el0 (ctx0 D ct hb xe) (mem0 hb)) := rfl
set_option maxRecDepth 100000 in
set_option maxHeartbeats 2000000 in
theorem ly_s7 : mkStock (ctx0 D ct hb xe) (0 + 70 + 2 + 23 * 4) = (stkK 7).map (el0 (ctx0 D ct hb xe) (mem0 hb)) := rfl
set_option maxRecDepth 100000 in
set_option maxHeartbeats 2000000 in
theorem ly_s8 : mkStock (ctx0 D ct hb xe) (0 + 70 + 2 + 23 * 5) = (stkK 8).map (el0 (ctx0 D ct hb xe) (mem0 hb)) := rfl
set_option maxRecDepth 100000 in
set_option maxHeartbeats 2000000 in
theorem ly_s9 : mkStock (ctx0 D ct hb xe) (0 + 70 + 2 + 23 * 6) = (stkK 9).map (el0 (ctx0 D ct hb xe) (mem0 hb)) := rfl
set_option maxRecDepth 100000 in
set_option maxHeartbeats 2000000 in
theorem ly_s10 : mkStock (ctx0 D ct hb xe) (0 + 70 + 2 + 23 * 7) = (stkK 10).map (el0 (ctx0 D ct hb xe) (mem0 hb)) := rfl
set_option maxRecDepth 100000 in
set_option maxHeartbeats 2000000 in
theorem ly_rg : mkStocks (ctx0 D ct hb xe) (0 + 70 + 2) 8 = (ringK 8).map (el0 (ctx0 D ct hb xe) (mem0 hb)) := lcat (lcat (lcat (lcat (lcat (lcat (lcat (lcat (l := []) rfl (ly_s3 D ct hb xe)) (ly_s4 D ct hb xe)) (ly_s5 D ct hb xe)) (ly_s6 D ct hb xe)) (ly_s7 D ct hb xe)) (ly_s8 D ct hb xe)) (ly_s9 D ct hb xe)) (ly_s10 D ct hb xe)
set_option maxRecDepth 100000 in
set_option maxHeartbeats 2000000 in
theorem ly_hi : mkHistory (ctx0 D ct hb xe) (0 + 70) = ((5, 0) :: ([(6, 0)] ++ ringK 8)).map (el0 (ctx0 D ct hb xe) (mem0 hb)) := lcns rfl (lcat rfl (ly_rg D ct hb xe))
set_option maxRecDepth 100000 in
set_option maxHeartbeats 2000000 in
theorem ly_bl : mkBlend (ctx0 D ct hb xe) (0 + 256) = [(7, 0), (10, 0), (10, 1), (10, 2)].map (el0 (ctx0 D ct hb xe) (mem0 hb)) := rfl
set_option maxRecDepth 100000 in
set_option maxHeartbeats 2000000 in
theorem ly_ti : mkTime (ctx0 D ct hb xe) (0 + 260) = [(8, 0), (10, 3), (10, 4), (0, 111), (1, 111)].map (el0 (ctx0 D ct hb xe) (mem0 hb)) := rfl
set_option maxRecDepth 100000 in
set_option maxHeartbeats 2000000 in
theorem ly_sp : mkSplice (ctx0 D ct hb xe) (0 + 265) = [(9, 0), (10, 5), (10, 6)].map (el0 (ctx0 D ct hb xe) (mem0 hb)) := rfl
set_option maxRecDepth 100000 in
set_option maxHeartbeats 2000000 in
theorem ly_ke : mkRow (ctx0 D ct hb xe) 12 (0 + 268) = [(0, 110), (1, 110)].map (el0 (ctx0 D ct hb xe) (mem0 hb)) := rfl
set_option maxRecDepth 100000 in
set_option maxHeartbeats 2000000 in
theorem ly_sc : mkScript (ctx0 D ct hb xe) (0 + 270) = [(11, 0), (13, 0), (16, 0), (12, 0), (10, 7)].map (el0 (ctx0 D ct hb xe) (mem0 hb)) := rfl
set_option maxRecDepth 100000 in
set_option maxHeartbeats 2000000 in
theorem ly_sb : mkSb (ctx0 D ct hb xe) (0 + 275) = [(13, 1), (16, 1)].map (el0 (ctx0 D ct hb xe) (mem0 hb)) := rfl
set_option maxRecDepth 100000 in
set_option maxHeartbeats 2000000 in
theorem ly_mi : mkMill (ctx0 D ct hb xe) 0 = ((14, 0) :: ([] ++ stkK 0 ++ stkK 1 ++ stkK 2 ++ ((5, 0) :: ([(6, 0)] ++ ringK 8)) ++ [(7, 0), (10, 0), (10, 1), (10, 2)] ++ [(8, 0), (10, 3), (10, 4), (0, 111), (1, 111)] ++ [(9, 0), (10, 5), (10, 6)] ++ [(0, 110), (1, 110)] ++ [(11, 0), (13, 0), (16, 0), (12, 0), (10, 7)] ++ [(13, 1), (16, 1)])).map (el0 (ctx0 D ct hb xe) (mem0 hb)) := lcns rfl (lcat (lcat (lcat (lcat (lcat (lcat (lcat (lcat (lcat (lcat (l := []) rfl (ly_s0 D ct hb xe)) (ly_s1 D ct hb xe)) (ly_s2 D ct hb xe)) (ly_hi D ct hb xe)) (ly_bl D ct hb xe)) (ly_ti D ct hb xe)) (ly_sp D ct hb xe)) (ly_ke D ct hb xe)) (ly_sc D ct hb xe)) (ly_sb D ct hb xe))
set_option maxRecDepth 100000 in
set_option maxHeartbeats 2000000 in
theorem csF_eq : csF (ctx0 D ct hb xe) = wsOrd.map (el0 (ctx0 D ct hb xe) (mem0 hb)) := ly_mi D ct hb xe
theorem csF_at (hN : New (ctx0 D ct hb xe)) {f k : Nat} (hk : k < oCnt (ctx0 D ct hb xe) f) : (csF (ctx0 D ct hb xe))[ixof f k]? = some ((el0 (ctx0 D ct hb xe) (mem0 hb)) (f, k)) := by
  obtain ⟨h1, h2⟩ := cnt_new hN hk
  rw [csF_eq, List.getElem?_map, wsOrd_at f h1 k h2]
  rfl
theorem adr0 (hN : New (ctx0 D ct hb xe)) {f k : Nat} (hk : k < oCnt (ctx0 D ct hb xe) f) : adr (ctx0 D ct hb xe) (mem0 hb) f k = hb + ixof f k := by
  have h1 := (cnt_new hN hk).1
  unfold adr
  by_cases h : f = 16
  · subst h
    rfl
  · rw [if_neg h, if_neg (by omega)]
    rfl
theorem dis0 (hN : New (ctx0 D ct hb xe)) : Dis (ctx0 D ct hb xe) (mem0 hb) := by
  refine ⟨fun f k f' k' h1 h2 e => ?_, fun f k h1 => ?_⟩
  · rw [adr0 D ct hb xe hN h1, adr0 D ct hb xe hN h2] at e
    have e2 : ixof f k = ixof f' k' := by omega
    obtain ⟨a1, a2⟩ := cnt_new hN h1
    obtain ⟨b1, b2⟩ := cnt_new hN h2
    have q1 := wsOrd_at f a1 k a2
    rw [e2, wsOrd_at f' b1 k' b2] at q1
    have q2 := Option.some.inj q1
    exact ⟨(congrArg Prod.fst q2).symm, (congrArg Prod.snd q2).symm⟩
  · rw [adr0 D ct hb xe hN h1]
    exact Nat.le_add_right _ _
theorem cells0 (hN : New (ctx0 D ct hb xe)) {H : Heap} (hR : Rg (ctx0 D ct hb xe) (csF (ctx0 D ct hb xe)) H) : Cells (ctx0 D ct hb xe) (mem0 hb) H := by
  intro f k hk
  have h := hR.2 (ixof f k) (hb + ixof f k, el0 (ctx0 D ct hb xe) (mem0 hb) (f, k)) (by rw [csW_at, csF_at D ct hb xe hN hk]; rfl)
  rw [adr0 D ct hb xe hN hk]
  by_cases h6 : f = 6
  · subst h6
    have hk0 : k = 0 := by
      have : oCnt (ctx0 D ct hb xe) 6 = 1 := rfl
      omega
    subst hk0
    refine Eq.trans h ?_
    show some (arrV (ct 4) 8 (fun j => va_rf (rgF (ctx0 D ct hb xe) 72 8 j))) = some (arrV (ct 4) 8 (fun j => va_rf (some (hb + ixof 4 (3 + j)))))
    unfold arrV
    congr 2
  · have e : el0 (ctx0 D ct hb xe) (mem0 hb) (f, k) = el (ctx0 D ct hb xe) (mem0 hb) f k := by
      unfold el0
      rw [if_neg h6]
    rw [e] at h
    exact h
end LAYC
