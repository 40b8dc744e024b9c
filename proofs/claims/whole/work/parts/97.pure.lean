theorem pure_law (L : Nat) (xs : Nat → Int32) (hL : L ≤ 2560) : ∃ r, f_L_law_23 L xs 513 0 v0 = some r := sorry
