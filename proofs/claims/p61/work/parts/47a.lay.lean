/-! THE LAYOUT OF THE START -/
def tbS (k : Nat) : Nat := if k < 3 then 1 + 23 * k else 3 + 23 * k
def ixof (f k : Nat) : Nat := match f with
  | 0 => if k = 111 then 263 else if k = 110 then 268 else if k % 10 < 5 then tbS (k / 10) + (2 + 2 * (k % 10)) else if k % 10 < 9 then tbS (k / 10) + (3 + 2 * (k % 10)) else tbS (k / 10) + 21
  | 1 => (if k = 111 then 263 else if k = 110 then 268 else if k % 10 < 5 then tbS (k / 10) + (2 + 2 * (k % 10)) else if k % 10 < 9 then tbS (k / 10) + (3 + 2 * (k % 10)) else tbS (k / 10) + 21) + 1
  | 2 => tbS k + 1
  | 3 => tbS k + 12
  | 4 => tbS k
  | 5 => 70
  | 6 => 71
  | 7 => 256
  | 8 => 260
  | 9 => 265
  | 10 => [257, 258, 259, 261, 262, 266, 267, 274].getD k 0
  | 11 => 270
  | 12 => 273
  | 13 => if k = 0 then 271 else 275
  | 14 => 0
  | 16 => if k = 0 then 272 else 276
  | _ => 0
def m0 (f k : Nat) : Nat → Int32 := if f = 4 then (fun s => if s = 4 then 1 else if s = 6 then 1000 else 0) else if f = 14 then (fun s => if s = 11 then -1 else if s = 12 then -1 else 0) else fun _ => 0
/-- the world's memory at the start, the first cell being hb -/
def mem0 (hb : Nat) : Mem := (m0, (fun k => hb + ixof 16 k), (fun _ => 16), (fun _ => 0), (fun _ => 0))
def ctx0 (D : va_G) (ct : Nat → ClassId) (hb : Nat) (xe : Nat → Nat → Nat) : Ctx := (D, (fun f k => hb + ixof f k), ct, hb, xe)
def stkK (k : Nat) : List (Nat × Nat) := (4, k) :: ((2, k) :: (((List.range 5).flatMap fun i => [(0, 10 * k + i), (1, 10 * k + i)]) ++ ((3, k) :: (((List.range 4).flatMap fun i => [(0, 10 * k + 5 + i), (1, 10 * k + 5 + i)]) ++ [(0, 10 * k + 9), (1, 10 * k + 9)]))))
def ringK : Nat → List (Nat × Nat)
  | 0 => []
  | n + 1 => ringK n ++ stkK (3 + n)
def wsOrd : List (Nat × Nat) := (14, 0) :: ([] ++ stkK 0 ++ stkK 1 ++ stkK 2 ++ ((5, 0) :: ([(6, 0)] ++ ringK 8)) ++ [(7, 0), (10, 0), (10, 1), (10, 2)] ++ [(8, 0), (10, 3), (10, 4), (0, 111), (1, 111)] ++ [(9, 0), (10, 5), (10, 6)] ++ [(0, 110), (1, 110)] ++ [(11, 0), (13, 0), (16, 0), (12, 0), (10, 7)] ++ [(13, 1), (16, 1)])
def cnt0 (f : Nat) : Nat := [112, 112, 11, 11, 11, 1, 1, 1, 1, 1, 8, 1, 1, 2, 1, 0, 2].getD f 0
set_option maxRecDepth 100000 in
set_option maxHeartbeats 0 in
theorem wsOrd_at : ∀ f : Nat, f < 17 → ∀ k : Nat, k < cnt0 f → wsOrd[ixof f k]? = some (f, k) := by decide +kernel
/-- a context that holds nothing yet but the mill -/
def New (x : Ctx) : Prop := xen x 30 0 = 0 ∧ xen x 30 1 = 0 ∧ xen x 30 2 = 0 ∧ xen x 30 3 = 0
theorem cnt_new {x : Ctx} (h : New x) {f k : Nat} (hk : k < oCnt x f) : f < 17 ∧ k < cnt0 f := by
  obtain ⟨h0, h1, h2, h3⟩ := h
  have hf := oCnt_lt hk
  unfold oCnt at hk
  rw [h0, h1, h2, h3] at hk
  match f, hf with
  | 0, _ => exact ⟨by decide, hk⟩
  | 1, _ => exact ⟨by decide, hk⟩
  | 2, _ => exact ⟨by decide, hk⟩
  | 3, _ => exact ⟨by decide, hk⟩
  | 4, _ => exact ⟨by decide, hk⟩
  | 5, _ => exact ⟨by decide, hk⟩
  | 6, _ => exact ⟨by decide, hk⟩
  | 7, _ => exact ⟨by decide, hk⟩
  | 8, _ => exact ⟨by decide, hk⟩
  | 9, _ => exact ⟨by decide, hk⟩
  | 10, _ => exact ⟨by decide, hk⟩
  | 11, _ => exact ⟨by decide, hk⟩
  | 12, _ => exact ⟨by decide, hk⟩
  | 13, _ => exact ⟨by decide, hk⟩
  | 14, _ => exact ⟨by decide, hk⟩
  | 15, _ => exact ⟨by decide, hk⟩
  | 16, _ => exact ⟨by decide, hk⟩
  | 17, _ => exact absurd hk (Nat.not_lt_zero _)
  | 18, _ => exact absurd hk (Nat.not_lt_zero _)
  | 19, _ => exact absurd hk (Nat.not_lt_zero _)
  | 20, _ => exact absurd hk (Nat.not_lt_zero _)
  | 21, _ => exact absurd hk (Nat.not_lt_zero _)
  | n + 22, h => exact absurd h (by omega)
def csF (x : Ctx) : List va_E := mkMill x 0
def el0 (x : Ctx) (σ : Mem) (q : Nat × Nat) : va_E := if q.1 = 6 then .inl (xct x 4, (8, .inr (.inr (.inr (.inr (rgF x 72 8)))))) else el x σ q.1 q.2
