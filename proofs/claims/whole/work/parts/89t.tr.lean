theorem law_true {L : Nat} {xs : Nat → Int32} (hL : L ≤ 2048) : f_L_law L xs = some true :=
  law_go hL 512 0 36 1707 S0L rfl inv0 (by decide) (by decide)
