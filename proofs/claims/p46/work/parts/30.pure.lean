theorem z_pure (L : Nat) (xs : Nat → Int32) (hL : L ≤ 260) : kj_L_law_8 L xs zs0 ∧ (j_L_law_8 L xs zs0).1 = 1 := by
  sorry
