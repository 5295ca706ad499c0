theorem ov_law (L : Nat) (hL : L ≤ 256) (xs : Nat → Int32) : ov_Law L xs := sorry
