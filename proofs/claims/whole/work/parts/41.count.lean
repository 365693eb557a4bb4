/-! how many that fit lead to a box -/
theorem bt_if (c : Bool) (s : Int32) (j : Nat) : bt (if c = true then s else 0) j = (c && bt s j) := by
  cases c
  · rw [if_neg (by decide), b_0]; rfl
  · rw [if_pos rfl]; rfl
section countl
variable {μ : mM}
set_option maxHeartbeats 2000000 in
theorem E_countLeads {p n : Nat} {fit : Nat → Bool} (h : MS μ) (hp : p < 8) (h1 : 1 ≤ n) (hn : n ≤ 24) (hb : A μ 20 p = nI n) (hw : PW (A μ 23) p n) (hf : ∀ x, x < 3615 → A μ 35 x = bI (fit x)) : ∃ ν, m_D 145 [.ref 19, .int (nI p)] μ = some (none, ν) ∧ SC [34, 38] [] μ ν ∧ ∀ b, b < 24 → A ν 38 b = nI (cnt (fun x => fit x && bt (sn (A μ 23) (A μ 21) p n x) b) 3615) := by
  have ho := oM_oc h
  have hly := E_layLeads h hp hn hb hw
  generalize hξ : wA μ 34 (lay (A μ 23) (A μ 21) p n (A μ 34) 15 0) = ξ at hly
  have sξ : SC [34, 38] [] μ ξ := by rw [← hξ]; exact SC_wA h (aM34 h) _ (by decide)
  have hM := sξ.1
  have x34 : A ξ 34 = lay (A μ 23) (A μ 21) p n (A μ 34) 15 0 := by rw [← hξ, wA_A (aM34 h), if_pos rfl]
  have x35 : A ξ 35 = A μ 35 := SC_A sξ (by decide) (by decide)
  obtain ⟨ν1, w1, e1, s1, f1⟩ := loop_inv (fun b ν (_ : Unit) => m_G 145 7 [.ref 19, .int (nI p), .int (nI b), m_d, m_d] [] ν) (fun b ν => SC [38] [] ξ ν ∧ ∀ j, j < b → A ν 38 j = 0) 24 (fun b ν v hbn P => by
    obtain ⟨s, f⟩ := P
    have hν := s.1
    refine ⟨wA ν 38 (upd (A ν 38) b 0), (), ?_, s.tr (SC_wA hν (aM38 hν) _ (by decide)), fun y hy => ?_⟩
    · try dsimp only
      rw [i145_7]
      simp (disch := first | omega | assumption) only [i145_8, i145_10, i145_13, i145_14, i145_17, i145_18, i145_19, i145_20, i145_23, n24, lt_t, if_true, gM26 hν, ga_A (aM38 hν), b_v_s, b_i_s, b_n_s, b_r_s, b_r_n, b_m_s, b_c_s, b_c_v, pa_A (aM38 hν), nI_add1]
    · rw [wA_A (aM38 hν), if_pos rfl, upd_at]
      by_cases q : y = b
      · rw [if_pos q]
      · rw [if_neg q]; exact f y (by omega)) ξ () ⟨SC.rf hM, fun y hy => by omega⟩
  obtain ⟨ν2, w2, e2, s2, f2⟩ := loop_inv (fun x ν (v : Value × Value) => m_G 145 28 [.ref 19, .int (nI p), .int (nI x), v.1, v.2] [] ν) (fun x ν => SC [38] [] ξ ν ∧ ∀ j, j < 24 → A ν 38 j = nI (cnt (fun x => fit x && bt (sn (A μ 23) (A μ 21) p n x) j) x)) 3615 (fun x ν v hx P => by
    obtain ⟨s, f⟩ := P
    obtain ⟨v3, v4⟩ := v
    have hν := s.1
    have hoν := oM_oc hν
    have r34 : A ν 34 = lay (A μ 23) (A μ 21) p n (A μ 34) 15 0 := (SC_A s (by decide) (by decide)).trans x34
    have r35 : A ν 35 x = bI (fit x) := by rw [SC_A s (by decide) (by decide), x35]; exact hf x hx
    have hld := E_leadsOn (x := x) hν hx
    rw [r34, ldo_ss h1 hn hx (stps x) (Nat.le_refl _)] at hld
    change m_D _ _ _ = some (some (.int (sn (A μ 23) (A μ 21) p n x)), ν) at hld
    obtain ⟨ρ, w3, e3, s3, f3⟩ := loop_inv (fun b ρ (_ : Unit) => m_G 145 57 [.ref 19, .int (nI p), .int (nI x), .int (if fit x = true then sn (A μ 23) (A μ 21) p n x else 0), .int (nI b)] [] ρ) (fun b ρ => SC [38] [] ν ρ ∧ ∀ j, j < 24 → A ρ 38 j = nI (cnt (fun x => fit x && bt (sn (A μ 23) (A μ 21) p n x) j) (if j < b then x + 1 else x))) 24 (fun b ρ v hbn P => by
      obtain ⟨s', f'⟩ := P
      have hρ := s'.1
      have hfb := f' b hbn
      rw [if_neg (Nat.lt_irrefl b)] at hfb
      refine ⟨wA ρ 38 (upd (A ρ 38) b (nI (cnt (fun x => fit x && bt (sn (A μ 23) (A μ 21) p n x) b) (x + 1)))), (), ?_, s'.tr (SC_wA hρ (aM38 hρ) _ (by decide)), fun y hy => ?_⟩
      · try dsimp only
        rw [i145_57, cnt]
        simp (disch := first | omega | assumption) only [i145_59, i145_61, i145_64, i145_65, i145_68, i145_70, i145_71, i145_72, i145_73, i145_75, i145_76, i145_77, i145_78, i145_79, i145_80, i145_83, n24, lt_t, if_true, gM26 hρ, ga_A (aM38 hρ), b_v_s, b_i_s, b_n_s, b_r_s, b_r_n, b_m_s, b_c_s, b_c_v, shr1, bt_if, hfb, nI_b, nI_plus, pa_A (aM38 hρ), nI_add1]
      · rw [wA_A (aM38 hρ), if_pos rfl, upd_at]
        by_cases q : y = b
        · subst q; rw [if_pos rfl, if_pos (by omega)]
        · rw [if_neg q, f' y hy]
          by_cases q2 : y < b
          · rw [if_pos q2, if_pos (by omega)]
          · rw [if_neg q2, if_neg (by omega)]) ν () ⟨SC.rf hν, fun y hy => by rw [f y hy, if_neg (by omega)]⟩
    refine ⟨ρ, (.int (if fit x = true then sn (A μ 23) (A μ 21) p n x else 0), .int (nI 24)), ?_, s.tr s3, fun y hy => ?_⟩
    · try dsimp only
      have go : m_G 145 28 [.ref 19, .int (nI p), .int (nI x), v3, v4] [] ν = m_G 145 57 [.ref 19, .int (nI p), .int (nI x), .int (if fit x = true then sn (A μ 23) (A μ 21) p n x else 0), .int (nI 0)] [] ν := by
        rw [i145_28]
        cases hF : fit x with
        | false =>
          rw [hF] at r35
          simp (disch := first | omega | assumption) only [i145_29, i145_32, i145_35, i145_36, i145_39, i145_40, i145_41, i145_44, i145_45, i145_46, i145_49, i145_52, i145_53, i145_54, i145_55, n3615, lt_t, if_true, if_false, gM22 hν, gb_A (aM35 hν) (Or.inl rfl), b_v_s, b_i_s, b_n_s, b_r_s, b_r_n, b_m_s, b_c_s, b_c_v, r35, bI_0, bI_n0, Bool.false_eq_true]
          rfl
        | true =>
          rw [hF] at r35
          simp (disch := first | omega | assumption) only [i145_29, i145_32, i145_35, i145_36, i145_39, i145_40, i145_41, i145_44, i145_45, i145_46, i145_49, i145_52, i145_53, i145_54, i145_55, n3615, lt_t, if_true, if_false, gM22 hν, gb_A (aM35 hν) (Or.inl rfl), b_v_s, b_i_s, b_n_s, b_r_s, b_r_n, b_m_s, b_c_s, b_c_v, r35, bI_0, bI_n0, Bool.true_eq_false, hld]
          rfl
      rw [go]
      refine e3.trans ?_
      try dsimp only
      rw [i145_57]
      simp (disch := first | omega | assumption) only [i145_59, i145_61, i145_86, i145_89, n24, lt_f, if_false, nI_add1]
    · have := f3 y hy
      rw [if_pos hy] at this
      exact this) ν1 (m_d, m_d) ⟨s1, fun y hy => by rw [f1 y hy]; rfl⟩
  refine ⟨ν2, ?_, sξ.tr (s2.mono (by decide) (by decide)), f2⟩
  simp (disch := first | omega | assumption) only [D145, i145_0, i145_1, i145_2, i145_5, i145_6, b_v_s, b_i_s, b_n_s, b_r_s, b_r_n, b_m_s, b_c_s, b_c_v, hly, n0]
  refine e1.trans ?_
  try dsimp only
  rw [i145_7]
  simp (disch := first | omega | assumption) only [i145_8, i145_10, i145_26, i145_27, n24, lt_f, if_false, n0]
  refine e2.trans ?_
  try dsimp only
  rw [i145_28]
  simp (disch := first | omega | assumption) only [i145_29, i145_32, i145_92, n3615, lt_f, if_false]
end countl
