theorem law_ok (LL : Nat) (xs : Nat → Int32) (h : LL ≤ 3584) : ∃ μ, m_G m_law 0 (m_pad m_law [m_scr]) [] ((0, 0), (LL, xs), fun _ => none) = some (some (.int 1), μ) ∧ mN μ ≤ 60000 ∧ mS μ ≤ 8922250 := by
  sorry
