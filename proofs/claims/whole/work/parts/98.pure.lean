theorem pure_main (xs : Nat → Int32) (L : Nat) (hL : L ≤ 3072) : PureMain xs L := sorry
