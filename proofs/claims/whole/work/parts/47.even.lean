/-! how evenly a sentence leads: the counts -/
def own (BM MK WH : Nat → Int32) (p : Nat) : Bool := decide (WH p = 0) && (decide (mks BM MK p 1 = 0) && decide (mks BM MK p 2 = 0))
def cvv (BM PR KD MK WH : Nat → Int32) (fit : Nat → Bool) (x p : Nat) : Nat := if (own BM MK WH p && fit x) = true then cnt (bt (sn PR KD p (bnn BM p) x)) 24 else 0
theorem n8' : (8 : Int32) = nI 8 := rfl
section evens1
variable {μ : mM}
set_option maxHeartbeats 2000000 in
theorem E_ev1 {np : Nat} {fit : Nat → Bool} (h : MS μ) (hp : FI μ 19 0 = nI np) (hg : PGs (A μ 20) (A μ 23) np) (hf : ∀ x, x < 3615 → A μ 35 x = bI (fit x)) (v2 v3 : Value) : ∃ ν w2 w3, m_G 141 2 [.ref 19, .int (nI 0), v2, v3, m_d] [] μ = m_G 141 2 [.ref 19, .int (nI np), w2, w3, m_d] [] ν ∧ SC [34, 37] [] μ ν ∧ ∀ p, p < np → ∀ x, x < 3615 → A ν 37 (8 * x + p) = nI (cvv (A μ 20) (A μ 23) (A μ 21) (A μ 24) (A μ 25) fit x p) := by
  have hnp8 := hg.1
  obtain ⟨ν, w, e, s, f⟩ := loop_inv (fun p ν (v : Value × Value) => m_G 141 2 [.ref 19, .int (nI p), v.1, v.2, m_d] [] ν) (fun p ν => SC [34, 37] [] μ ν ∧ ∀ q, q < p → ∀ x, x < 3615 → A ν 37 (8 * x + q) = nI (cvv (A μ 20) (A μ 23) (A μ 21) (A μ 24) (A μ 25) fit x q)) np (fun p ν v hpn P => by
    obtain ⟨s, f⟩ := P
    obtain ⟨v2, v3⟩ := v
    obtain ⟨b1, b2, b3, b4⟩ := hg.2 p hpn
    have hp8 : p < 8 := by omega
    have hν := s.1
    have hoν := oM_oc hν
    have n20' : A ν 20 = A μ 20 := SC_A s (by decide) (by decide)
    have n23' : A ν 23 = A μ 23 := SC_A s (by decide) (by decide)
    have n21' : A ν 21 = A μ 21 := SC_A s (by decide) (by decide)
    have n24' : A ν 24 = A μ 24 := SC_A s (by decide) (by decide)
    have n25' : A ν 25 = A μ 25 := SC_A s (by decide) (by decide)
    have n35' : A ν 35 = A μ 35 := SC_A s (by decide) (by decide)
    have hnp : FI ν 19 0 = nI np := (s.2.2.2.2 0 (by decide)).trans hp
    have hly := E_layLeads (n := bnn (A μ 20) p) hν hp8 b3 (by rw [n20']; exact b1) (by rw [n23']; exact b4)
    rw [n23', n21'] at hly
    generalize hξ : wA ν 34 (lay (A μ 23) (A μ 21) p (bnn (A μ 20) p) (A ν 34) 15 0) = ξ at hly
    have sξ : SC [34, 37] [] ν ξ := by rw [← hξ]; exact SC_wA hν (aM34 hν) _ (by decide)
    have hM := sξ.1
    have x34 : A ξ 34 = lay (A μ 23) (A μ 21) p (bnn (A μ 20) p) (A ν 34) 15 0 := by rw [← hξ, wA_A (aM34 hν), if_pos rfl]
    have x35 : A ξ 35 = A ν 35 := by rw [← hξ, wA_A (aM34 hν), if_neg (by decide)]
    have x37 : A ξ 37 = A ν 37 := by rw [← hξ, wA_A (aM34 hν), if_neg (by decide)]
    have hy1 := E_marked (as := 1) (n := bnn (A μ 20) p) hν hp8 b3 (by rw [n20']; exact b1)
    have hy2 := E_marked (as := 2) (n := bnn (A μ 20) p) hν hp8 b3 (by rw [n20']; exact b1)
    rw [n24'] at hy1 hy2
    change m_D _ _ _ = some (some (.int (mks (A μ 20) (A μ 24) p 1)), ν) at hy1
    change m_D _ _ _ = some (some (.int (mks (A μ 20) (A μ 24) p 2)), ν) at hy2
    have go : m_G 141 2 [.ref 19, .int (nI p), v2, v3, m_d] [] ν = m_G 141 50 [.ref 19, .int (nI p), .int (bI (own (A μ 20) (A μ 24) (A μ 25) p)), .int (nI 0), m_d] [] ξ := by
      rw [i141_2]
      unfold own
      by_cases c1 : A μ 25 p = 0
      · by_cases c2 : mks (A μ 20) (A μ 24) p 1 = 0
        · by_cases c3 : mks (A μ 20) (A μ 24) p 2 = 0
          · rw [decide_eq_true c1, decide_eq_true c2, decide_eq_true c3]
            simp (disch := first | omega | assumption) only [i141_3, i141_4, i141_7, i141_10, i141_11, i141_14, i141_15, i141_16, i141_19, i141_20, i141_21, i141_22, i141_25, i141_28, i141_29, i141_30, i141_31, i141_34, i141_37, i141_38, i141_41, i141_42, i141_43, i141_44, i141_45, i141_48, i141_49, gM0 hν, hnp, lt_t, if_true, gM6 hν, gb_A (aM25 hν) (Or.inl rfl), b_v_s, b_i_s, b_n_s, b_r_s, b_r_n, b_m_s, b_c_s, b_c_v, n25', c1, hy1, c2, hy2, c3, hly]
            rfl
          · rw [decide_eq_true c1, decide_eq_true c2, decide_eq_false c3]
            simp (disch := first | omega | assumption) only [i141_3, i141_4, i141_7, i141_10, i141_11, i141_14, i141_15, i141_16, i141_19, i141_20, i141_21, i141_22, i141_25, i141_28, i141_29, i141_30, i141_31, i141_34, i141_37, i141_38, i141_41, i141_42, i141_43, i141_44, i141_45, i141_48, i141_49, gM0 hν, hnp, lt_t, if_true, if_false, gM6 hν, gb_A (aM25 hν) (Or.inl rfl), b_v_s, b_i_s, b_n_s, b_r_s, b_r_n, b_m_s, b_c_s, b_c_v, n25', c1, hy1, c2, hy2, c3, hly]
            rfl
        · rw [decide_eq_true c1, decide_eq_false c2, Bool.false_and]
          simp (disch := first | omega | assumption) only [i141_3, i141_4, i141_7, i141_10, i141_11, i141_14, i141_15, i141_16, i141_19, i141_20, i141_21, i141_22, i141_25, i141_28, i141_29, i141_30, i141_31, i141_34, i141_37, i141_38, i141_41, i141_42, i141_43, i141_44, i141_45, i141_48, i141_49, gM0 hν, hnp, lt_t, if_true, if_false, gM6 hν, gb_A (aM25 hν) (Or.inl rfl), b_v_s, b_i_s, b_n_s, b_r_s, b_r_n, b_m_s, b_c_s, b_c_v, n25', c1, hy1, c2, hly]
          rfl
      · rw [decide_eq_false c1, Bool.false_and]
        simp (disch := first | omega | assumption) only [i141_3, i141_4, i141_7, i141_10, i141_11, i141_14, i141_15, i141_16, i141_19, i141_20, i141_21, i141_22, i141_25, i141_28, i141_29, i141_30, i141_31, i141_34, i141_37, i141_38, i141_41, i141_42, i141_43, i141_44, i141_45, i141_48, i141_49, gM0 hν, hnp, lt_t, if_true, if_false, gM6 hν, gb_A (aM25 hν) (Or.inl rfl), b_v_s, b_i_s, b_n_s, b_r_s, b_r_n, b_m_s, b_c_s, b_c_v, n25', c1, hly]
        rfl
    obtain ⟨ρ, w3, e3, s3, f3, g3⟩ := loop_inv (fun x ρ (_ : Unit) => m_G 141 50 [.ref 19, .int (nI p), .int (bI (own (A μ 20) (A μ 24) (A μ 25) p)), .int (nI x), m_d] [] ρ) (fun x ρ => SC [37] [] ξ ρ ∧ (∀ y, y < x → A ρ 37 (8 * y + p) = nI (cvv (A μ 20) (A μ 23) (A μ 21) (A μ 24) (A μ 25) fit y p)) ∧ ∀ q, q < p → ∀ y, y < 3615 → A ρ 37 (8 * y + q) = A ν 37 (8 * y + q)) 3615 (fun x ρ v hx P => by
      obtain ⟨s', f', g'⟩ := P
      have hρ := s'.1
      have hoρ := oM_oc hρ
      have r34 : A ρ 34 = lay (A μ 23) (A μ 21) p (bnn (A μ 20) p) (A ν 34) 15 0 := (SC_A s' (by decide) (by decide)).trans x34
      have r35 : A ρ 35 x = bI (fit x) := by rw [SC_A s' (by decide) (by decide), x35, n35']; exact hf x hx
      have hld := E_leadsOn (x := x) hρ hx
      rw [r34, ldo_ss b2 b3 hx (stps x) (Nat.le_refl _)] at hld
      change m_D _ _ _ = some (some (.int (sn (A μ 23) (A μ 21) p (bnn (A μ 20) p) x)), ρ) at hld
      refine ⟨wA ρ 37 (upd (A ρ 37) (8 * x + p) (nI (cvv (A μ 20) (A μ 23) (A μ 21) (A μ 24) (A μ 25) fit x p))), (), ?_, s'.tr (SC_wA hρ (aM37 hρ) _ (by decide)), fun y hy => ?_, fun q hq y hy => ?_⟩
      · try dsimp only
        rw [i141_50]
        unfold cvv
        cases hO : own (A μ 20) (A μ 24) (A μ 25) p with
        | false =>
          rw [Bool.false_and, if_neg (by decide)]
          simp (disch := first | omega | assumption) only [i141_51, i141_54, i141_57, i141_58, i141_61, i141_63, i141_64, i141_65, i141_66, i141_67, i141_68, i141_71, i141_72, i141_75, i141_76, i141_77, i141_80, i141_81, i141_82, i141_85, i141_88, i141_91, i141_92, i141_93, i141_96, n3615, lt_t, if_true, gM25 hρ, b_v_s, b_i_s, b_n_s, b_r_s, b_r_n, b_m_s, b_c_s, b_c_v, n8', nI_times, nI_plus, bI_0, pa_A (aM37 hρ), nI_add1]
          rfl
        | true =>
          cases hF : fit x with
          | false =>
            rw [hF] at r35
            rw [Bool.and_false, if_neg (by decide)]
            simp (disch := first | omega | assumption) only [i141_51, i141_54, i141_57, i141_58, i141_61, i141_63, i141_64, i141_65, i141_66, i141_67, i141_68, i141_71, i141_72, i141_75, i141_76, i141_77, i141_80, i141_81, i141_82, i141_85, i141_88, i141_91, i141_92, i141_93, i141_96, n3615, lt_t, if_true, if_false, gM25 hρ, gM22 hρ, gb_A (aM35 hρ) (Or.inl rfl), b_v_s, b_i_s, b_n_s, b_r_s, b_r_n, b_m_s, b_c_s, b_c_v, r35, n8', nI_times, nI_plus, bI_0, Bool.true_eq_false, pa_A (aM37 hρ), nI_add1]
            rfl
          | true =>
            rw [hF] at r35
            rw [Bool.and_true, if_pos rfl]
            simp (disch := first | omega | assumption) only [i141_51, i141_54, i141_57, i141_58, i141_61, i141_63, i141_64, i141_65, i141_66, i141_67, i141_68, i141_71, i141_72, i141_75, i141_76, i141_77, i141_80, i141_81, i141_82, i141_85, i141_88, i141_91, i141_92, i141_93, i141_96, n3615, lt_t, if_true, if_false, gM25 hρ, gM22 hρ, gb_A (aM35 hρ) (Or.inl rfl), b_v_s, b_i_s, b_n_s, b_r_s, b_r_n, b_m_s, b_c_s, b_c_v, r35, hld, E_bitsOf, n8', nI_times, nI_plus, bI_0, Bool.true_eq_false, pa_A (aM37 hρ), nI_add1]
      · rw [wA_A (aM37 hρ), if_pos rfl, upd_at]
        by_cases q : y = x
        · subst q; rw [if_pos rfl]
        · rw [if_neg (by omega)]; exact f' y (by omega)
      · rw [wA_A (aM37 hρ), if_pos rfl, upd_at, if_neg (by omega)]
        exact g' q hq y hy) ξ () ⟨SC.rf hM, fun y hy => by omega, fun q hq y hy => by rw [x37]⟩
    refine ⟨ρ, (.int (bI (own (A μ 20) (A μ 24) (A μ 25) p)), .int (nI 3615)), ?_, s.tr (sξ.tr (s3.mono (by decide) (by decide))), fun q hq x hx => ?_⟩
    · try dsimp only
      rw [go]
      refine e3.trans ?_
      try dsimp only
      rw [i141_50]
      simp (disch := first | omega | assumption) only [i141_51, i141_54, i141_99, i141_102, n3615, lt_f, if_false, nI_add1]
    · by_cases c : q = p
      · subst c; exact f3 x hx
      · rw [g3 q (by omega) x hx]; exact f q (by omega) x hx) μ (v2, v3) ⟨SC.rf h, fun q hq => by omega⟩
  exact ⟨ν, w.1, w.2, e, s, f⟩
end evens1
