theorem z_pure (xs : Nat → Int32) (t : Nat) (ht : t ≤ 512) : zRunOk xs t 0 zs0 := by
  sorry
