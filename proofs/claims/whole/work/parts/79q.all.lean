/-! the law's method, a page's call as a premise -/
theorem law_all (LL : Nat) (xs : Nat → Int32) (h : LL ≤ 3584) (hpage : CallOK (LL, xs) 64 115 []) : ∃ μ, m_G m_law 0 (m_pad m_law [m_scr]) [] ((0, 0), (LL, xs), fun _ => none) = some (some (.int 1), μ) ∧ mN μ ≤ 156 ∧ mS μ ≤ 100192 := by
  obtain ⟨ν, e, ok⟩ := law_loop hpage h LL 0 (mM0 (LL, xs)) (by omega) (Nat.zero_le _) (I_ok (INV0 (LL, xs))) (mM0_wf (LL, xs))
  refine ⟨ν, (law_start (LL, xs)).trans e, ?_⟩
  obtain ⟨np, nr, nl, ns, PA, QA, LA, sh, I⟩ := ok
  have h1 := I_np I
  have h2 := I_nr I
  have h3 := I_nl I
  have h4 := I_mN I
  have h5 := I_mS I
  omega
