/-! likeness of a set of words to those before -/
def lks (o : Nat → Nat) (bf : Nat → Bool) : Nat → Int32
  | 0 => 0
  | w + 1 => lks o bf w + (if o w = 0 then 0 else if bf w = true then 1 else -1)
theorem nI_is0 {a : Nat} (ha : a < 2147483648) : (nI a = 0) = (a = 0) := by rw [n0, nI_eqE ha (by decide)]
theorem oft_le (WD : Nat → Int32) (p : Nat) (s : Int32) (n w : Nat) : oft WD p s n w ≤ n := cnt_le _ n
section likes
variable {μ : mM}
set_option maxHeartbeats 1000000 in
theorem E_likeness {p n : Nat} {s : Int32} {bf : Nat → Bool} (h : MS μ) (hp : p < 8) (hn : n ≤ 24) (hb : A μ 20 p = nI n) (hw : WW (A μ 22) p n) (hf : ∀ w, w < 100 → A μ 43 w = bI (bf w)) : ∃ ν, m_D 155 [.ref 19, .int (nI p), .int s] μ = some (some (.int (lks (oft (A μ 22) p s n) bf 100)), ν) ∧ SC [42] [] μ ν := by
  have ho := oM_oc h
  obtain ⟨ν, e1, s1, f1⟩ := E_countWords (s := s) h hp hn hb hw
  have hν := s1.1
  have r43 : A ν 43 = A μ 43 := SC_A s1 (by decide) (by decide)
  have L := loop1 (fun w => m_G 155 11 [.ref 19, .int (nI p), .int s, .int (lks (oft (A μ 22) p s n) bf w), .int (nI w)] [] ν) 100 (fun w hw1 => by
    try dsimp only
    have fw := f1 w hw1
    have fb := hf w hw1
    have hol := oft_le (A μ 22) p s n w
    rw [i155_11, lks]
    by_cases c1 : oft (A μ 22) p s n w = 0
    · rw [c1] at fw
      simp (disch := first | omega | assumption) only [i155_13, i155_15, i155_18, i155_19, i155_20, i155_23, i155_25, i155_26, i155_29, i155_30, i155_33, i155_34, i155_37, i155_39, i155_40, i155_43, i155_44, i155_47, i155_48, i155_49, i155_50, i155_53, n100, lt_t, if_true, gM31 hν, ga_A (aM42 hν), b_v_s, b_i_s, b_n_s, b_r_s, b_r_n, b_m_s, b_c_s, b_c_v, fw, c1, nI_is0, nI_add1]
    · cases hB : bf w with
      | false =>
        rw [hB] at fb
        simp (disch := first | omega | assumption) only [i155_13, i155_15, i155_18, i155_19, i155_20, i155_23, i155_25, i155_26, i155_29, i155_30, i155_33, i155_34, i155_37, i155_39, i155_40, i155_43, i155_44, i155_47, i155_48, i155_49, i155_50, i155_53, n100, lt_t, if_true, if_false, gM31 hν, ga_A (aM42 hν), gM32 hν, gb_A (aM43 hν) (Or.inl rfl), b_v_s, b_i_s, b_n_s, b_r_s, b_r_n, b_m_s, b_c_s, b_c_v, fw, if_neg c1, nI_is0, r43, fb, bI_0, Bool.false_eq_true, nI_add1]
      | true =>
        rw [hB] at fb
        simp (disch := first | omega | assumption) only [i155_13, i155_15, i155_18, i155_19, i155_20, i155_23, i155_25, i155_26, i155_29, i155_30, i155_33, i155_34, i155_37, i155_39, i155_40, i155_43, i155_44, i155_47, i155_48, i155_49, i155_50, i155_53, n100, lt_t, if_true, if_false, gM31 hν, ga_A (aM42 hν), gM32 hν, gb_A (aM43 hν) (Or.inl rfl), b_v_s, b_i_s, b_n_s, b_r_s, b_r_n, b_m_s, b_c_s, b_c_v, fw, if_neg c1, nI_is0, r43, fb, bI_0, Bool.true_eq_false, nI_add1])
  refine ⟨ν, ?_, s1⟩
  simp (disch := first | omega | assumption) only [D155, i155_0, i155_1, i155_2, i155_3, i155_6, i155_7, i155_8, i155_9, b_v_s, b_i_s, b_n_s, b_r_s, b_r_n, b_m_s, b_c_s, b_c_v, e1]
  refine (show _ = _ from L).trans ?_
  try dsimp only
  rw [i155_11]
  simp (disch := first | omega | assumption) only [i155_13, i155_15, i155_56, i155_57, n100, lt_f, if_false]
end likes
