theorem law_true (L : Nat) (xs : Nat → Int32) (hL : L ≤ 2049) : f_La_law L xs = some 1 := sorry
