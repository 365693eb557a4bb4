/-! words, how often -/
def WW (WD : Nat → Int32) (p n : Nat) : Prop := ∀ b, b < n → WD (24 * p + b) = -1 ∨ ∃ w, w < 100 ∧ WD (24 * p + b) = nI w
def oft (WD : Nat → Int32) (p : Nat) (s : Int32) (n w : Nat) : Nat := cnt (fun b => bt s b && decide (WD (24 * p + b) = nI w)) n
theorem n100 : (100 : Int32) = nI 100 := rfl
theorem oft_st (WD : Nat → Int32) (p : Nat) (s : Int32) (n w : Nat) : oft WD p s (n + 1) w = oft WD p s n w + (if (bt s n && decide (WD (24 * p + n) = nI w)) = true then 1 else 0) := rfl
section words
variable {μ : mM}
set_option maxHeartbeats 2000000 in
theorem E_countWords {p n : Nat} {s : Int32} (h : MS μ) (hp : p < 8) (hn : n ≤ 24) (hb : A μ 20 p = nI n) (hw : WW (A μ 22) p n) : ∃ ν, m_D 149 [.ref 19, .int (nI p), .int s] μ = some (none, ν) ∧ SC [42] [] μ ν ∧ ∀ w, w < 100 → A ν 42 w = nI (oft (A μ 22) p s n w) := by
  obtain ⟨ν1, w1, e1, s1, f1⟩ := loop_inv (fun b ν (_ : Unit) => m_G 149 2 [.ref 19, .int (nI p), .int s, .int (nI b)] [] ν) (fun b ν => SC [42] [] μ ν ∧ ∀ j, j < b → A ν 42 j = 0) 100 (fun b ν v hbn P => by
    obtain ⟨s', f⟩ := P
    have hν := s'.1
    refine ⟨wA ν 42 (upd (A ν 42) b 0), (), ?_, s'.tr (SC_wA hν (aM42 hν) _ (by decide)), fun y hy => ?_⟩
    · try dsimp only
      rw [i149_2]
      simp (disch := first | omega | assumption) only [i149_3, i149_5, i149_8, i149_9, i149_12, i149_13, i149_14, i149_15, i149_18, n100, lt_t, if_true, gM31 hν, ga_A (aM42 hν), b_v_s, b_i_s, b_n_s, b_r_s, b_r_n, b_m_s, b_c_s, b_c_v, pa_A (aM42 hν), nI_add1]
    · rw [wA_A (aM42 hν), if_pos rfl, upd_at]
      by_cases q : y = b
      · rw [if_pos q]
      · rw [if_neg q]; exact f y (by omega)) μ () ⟨SC.rf h, fun y hy => by omega⟩
  obtain ⟨ν2, w2, e2, s2, f2⟩ := loop_inv (fun b ν (_ : Unit) => m_G 149 23 [.ref 19, .int (nI p), .int s, .int (nI b)] [] ν) (fun b ν => SC [42] [] μ ν ∧ ∀ w, w < 100 → A ν 42 w = nI (oft (A μ 22) p s b w)) n (fun b ν v hbn P => by
    obtain ⟨s', f⟩ := P
    have hν := s'.1
    have r20 : A ν 20 p = nI n := by rw [SC_A s' (by decide) (by decide)]; exact hb
    have r22 : A ν 22 = A μ 22 := SC_A s' (by decide) (by decide)
    have keep : (∀ w, w < 100 → (bt s b && decide (A μ 22 (24 * p + b) = nI w)) = false) → m_G 149 23 [.ref 19, .int (nI p), .int s, .int (nI b)] [] ν = m_G 149 23 [.ref 19, .int (nI p), .int s, .int (nI (b + 1))] [] ν → ∃ (ν' : mM) (_ : Unit), m_G 149 23 [.ref 19, .int (nI p), .int s, .int (nI b)] [] ν = m_G 149 23 [.ref 19, .int (nI p), .int s, .int (nI (b + 1))] [] ν' ∧ SC [42] [] μ ν' ∧ ∀ w, w < 100 → A ν' 42 w = nI (oft (A μ 22) p s (b + 1) w) := by
      intro hk he
      refine ⟨ν, (), he, s', fun w hw1 => ?_⟩
      rw [oft_st, hk w hw1, f w hw1]
      rfl
    cases hbs : bt s b with
    | false =>
      refine keep (fun w _ => by rw [hbs]; rfl) ?_
      rw [i149_23]
      simp (disch := first | omega | assumption) only [i149_24, i149_25, i149_28, i149_29, i149_30, i149_33, i149_34, i149_35, i149_38, i149_41, i149_42, i149_45, i149_47, i149_48, i149_49, i149_50, i149_51, i149_52, i149_53, i149_56, i149_57, i149_60, i149_61, i149_64, i149_66, i149_67, i149_68, i149_69, i149_70, i149_71, i149_72, i149_73, i149_74, i149_75, i149_76, i149_79, gM1 hν, ga_A (aM20 hν), b_v_s, b_i_s, b_n_s, b_r_s, b_r_n, b_m_s, b_c_s, b_c_v, r20, lt_t, if_true, if_false, E_has, hbs, bI_0, Bool.false_eq_true, nI_add1]
    | true =>
      rcases hw b hbn with q | ⟨w, q1, q2⟩
      · refine keep (fun w hw1 => by rw [q, decide_eq_false (fun z => by have := nI_ne1 (a := w) (by omega); rw [← z] at this; simp at this)]; simp) ?_
        rw [i149_23]
        simp (disch := first | omega | assumption) only [i149_24, i149_25, i149_28, i149_29, i149_30, i149_33, i149_34, i149_35, i149_38, i149_41, i149_42, i149_45, i149_47, i149_48, i149_49, i149_50, i149_51, i149_52, i149_53, i149_56, i149_57, i149_60, i149_61, i149_64, i149_66, i149_67, i149_68, i149_69, i149_70, i149_71, i149_72, i149_73, i149_74, i149_75, i149_76, i149_79, gM1 hν, ga_A (aM20 hν), gM3 hν, ga_A (aM22 hν), b_v_s, b_i_s, b_n_s, b_r_s, b_r_n, b_m_s, b_c_s, b_c_v, r20, r22, q, k24, lt_t, if_true, if_false, E_has, hbs, bI_0, Bool.true_eq_false, nI_add1]
      · have fw := f w q1
        refine ⟨wA ν 42 (upd (A ν 42) w (nI (oft (A μ 22) p s b w + 1))), (), ?_, s'.tr (SC_wA hν (aM42 hν) _ (by decide)), fun y hy => ?_⟩
        · try dsimp only
          rw [i149_23]
          simp (disch := first | omega | assumption) only [i149_24, i149_25, i149_28, i149_29, i149_30, i149_33, i149_34, i149_35, i149_38, i149_41, i149_42, i149_45, i149_47, i149_48, i149_49, i149_50, i149_51, i149_52, i149_53, i149_56, i149_57, i149_60, i149_61, i149_64, i149_66, i149_67, i149_68, i149_69, i149_70, i149_71, i149_72, i149_73, i149_74, i149_75, i149_76, i149_79, gM1 hν, ga_A (aM20 hν), gM3 hν, ga_A (aM22 hν), gM31 hν, ga_A (aM42 hν), b_v_s, b_i_s, b_n_s, b_r_s, b_r_n, b_m_s, b_c_s, b_c_v, r20, r22, q2, k24, lt_t, if_true, if_false, E_has, hbs, bI_0, Bool.true_eq_false, nI_ne1, fw, pa_A (aM42 hν), nI_add1]
        · rw [wA_A (aM42 hν), if_pos rfl, upd_at, oft_st, hbs, q2]
          by_cases z : y = w
          · subst z; rw [if_pos rfl]; simp
          · rw [if_neg z, f y hy, decide_eq_false (fun e => z (by rw [nI_eqE (by omega) (by omega)] at e; exact e.symm))]
            simp) ν1 () ⟨s1, fun w hw1 => by rw [f1 w hw1]; rfl⟩
  refine ⟨ν2, ?_, s2, f2⟩
  have r20 : A ν2 20 p = nI n := by rw [SC_A s2 (by decide) (by decide)]; exact hb
  have hν2 := s2.1
  simp only [D149, i149_0, i149_1, n0]
  refine e1.trans ?_
  try dsimp only
  rw [i149_2]
  simp (disch := first | omega | assumption) only [i149_3, i149_5, i149_21, i149_22, n100, lt_f, if_false, n0]
  refine e2.trans ?_
  try dsimp only
  rw [i149_23]
  simp (disch := first | omega | assumption) only [i149_24, i149_25, i149_28, i149_29, i149_30, i149_82, gM1 hν2, ga_A (aM20 hν2), b_v_s, b_i_s, b_n_s, b_r_s, b_r_n, b_m_s, b_c_s, b_c_v, r20, lt_f, if_false]
end words
