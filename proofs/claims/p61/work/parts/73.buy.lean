/-! A BALE BOUGHT -/
def r_buy (a : Nat → Int32) (n : Nat) (x1 x2 x3 : Int32) : Nat → Int32 := up (up (up (up (up (up (up (up a (14 + 4 * n) (a 9)) (15 + 4 * n) x1) (16 + 4 * n) x2) (17 + 4 * n) x3) 0 (a 0 - x1 * x3)) 4 (a 4 + x1 * x3)) 11 (a 11 + 1)) 9 (a 9 + 1)
