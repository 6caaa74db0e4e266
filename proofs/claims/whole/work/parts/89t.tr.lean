theorem law_true {L : Nat} {xs : Nat → Int32} (hL : L ≤ 2048) : f_L_law L xs = some true := by sorry
