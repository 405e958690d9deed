theorem ww_pure {L : Nat} (hL : L ≤ 320) (xs : Nat → Int32) : ∃ τ, f_L_law L xs ww_zAll = some (1, τ) := by
  sorry
