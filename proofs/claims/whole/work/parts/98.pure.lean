/-- WHAT IS LEFT: the law's function answers 1 on every script, within the room -/
theorem law_pure (L : Nat) (xs : Nat → Int32) (hL : L ≤ 3072) : ∃ μ' : Mm, f_L_law L xs μE 127 = some (1, μ') ∧ μ'.1 ≤ 600128 ∧ μ'.2.1 ≤ 7302249 := sorry
