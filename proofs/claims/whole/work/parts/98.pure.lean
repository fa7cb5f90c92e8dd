theorem pure_law (a b : Int32) (L : Nat) (xs : Nat → Int32) (hL : L ≤ 2050) : cz_lp3 (l_LAW L xs) 600 (cp_M0 a b) (mo_M0 a b) 2 = some 1 := sorry
