theorem pure_law (a b : Int32) (L : Nat) (xs : Nat → Int32) (hL : L ≤ 2050) : cz_lp3 (l_LAW L xs) 600 (cp_M0 a b) (mo_M0 a b) 2 = some 1 := by
  have e : (2 : Int32) = nI (2 + 4 * 0) := rfl
  rw [e]
  exact law_lp L xs hL 600 0 _ _ (by omega) (by omega) (rR0 a b)
