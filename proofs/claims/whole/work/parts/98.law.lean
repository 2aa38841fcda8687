theorem law_math : ∀ (o L : Nat) (xs : Nat → Int32), L ≤ 2048 → ∃ h2, f_L_law L xs (h0 o) o (o + 174) 0 = some (1, h2) := by
  sorry
