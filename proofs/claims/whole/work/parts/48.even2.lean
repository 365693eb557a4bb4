/-! how evenly a sentence leads -/
def evn (cv : Nat → Nat) (np : Nat) : Nat → Nat
  | 0 => 0
  | p + 1 => if 0 < cv p ∧ evn cv np p < cnt (fun j => decide (cv j = cv p)) np then cnt (fun j => decide (cv j = cv p)) np else evn cv np p
theorem evn_le (cv : Nat → Nat) (np p : Nat) : evn cv np p ≤ np := by
  induction p with
  | zero => exact Nat.zero_le _
  | succ p ih =>
    rw [evn]
    split
    · exact cnt_le _ _
    · exact ih
theorem evn_st (cv : Nat → Nat) (np p : Nat) : evn cv np (p + 1) = if 0 < cv p ∧ evn cv np p < cnt (fun j => decide (cv j = cv p)) np then cnt (fun j => decide (cv j = cv p)) np else evn cv np p := rfl
theorem cvv_le (BM PR KD MK WH : Nat → Int32) (fit : Nat → Bool) (x p : Nat) : cvv BM PR KD MK WH fit x p ≤ 24 := by
  unfold cvv
  split
  · exact cnt_le _ _
  · exact Nat.zero_le _
def evx (cv : Nat → Nat → Nat) (fit : Nat → Bool) (np x : Nat) : Nat := if fit x = true then evn (cv x) np np else 0
section evens2
variable {μ : mM}
set_option maxHeartbeats 2000000 in
theorem E_ev2 {np : Nat} {fit : Nat → Bool} {cv : Nat → Nat → Nat} (h : MS μ) (hp : FI μ 19 0 = nI np) (hnp8 : np ≤ 8) (hf : ∀ x, x < 3615 → A μ 35 x = bI (fit x)) (hle : ∀ x p, cv x p ≤ 24) (hc : ∀ p, p < np → ∀ x, x < 3615 → A μ 37 (8 * x + p) = nI (cv x p)) (v2 v3 v4 : Value) : ∃ ν w2 w3 w4, m_G 141 107 [.ref 19, .int (nI 0), v2, v3, v4] [] μ = m_G 141 107 [.ref 19, .int (nI 3615), w2, w3, w4] [] ν ∧ SC [36] [] μ ν ∧ ∀ x, x < 3615 → A ν 36 x = nI (evx cv fit np x) := by
  obtain ⟨ν, w, e, s, f⟩ := loop_inv (fun x ν (v : Value × Value × Value) => m_G 141 107 [.ref 19, .int (nI x), v.1, v.2.1, v.2.2] [] ν) (fun x ν => SC [36] [] μ ν ∧ ∀ y, y < x → A ν 36 y = nI (evx cv fit np y)) 3615 (fun x ν v hx P => by
    obtain ⟨s, f⟩ := P
    obtain ⟨v2, v3, v4⟩ := v
    have hν := s.1
    generalize hξ : wA ν 36 (upd (A ν 36) x 0) = ξ
    have sξ : SC [36] [] ν ξ := by rw [← hξ]; exact SC_wA hν (aM36 hν) _ (by decide)
    have sμ : SC [36] [] μ ξ := s.tr sξ
    have hM := sξ.1
    have x36 : ∀ y, A ξ 36 y = if y = x then 0 else A ν 36 y := fun y => by rw [← hξ, wA_A (aM36 hν), if_pos rfl, upd_at]
    have go : m_G 141 107 [.ref 19, .int (nI x), v2, v3, v4] [] ν = m_G 141 123 [.ref 19, .int (nI x), .int (nI 0), v3, v4] [] ξ := by
      rw [i141_107]
      simp (disch := first | omega | assumption) only [i141_108, i141_111, i141_114, i141_115, i141_118, i141_119, i141_120, i141_121, i141_122, n3615, lt_t, if_true, gM24 hν, b_v_s, b_i_s, b_n_s, b_r_s, b_r_n, b_m_s, b_c_s, b_c_v, pa_A (aM36 hν), hξ]
      rfl
    have hnp : FI ξ 19 0 = nI np := (sμ.2.2.2.2 0 (by decide)).trans hp
    have r35 : A ξ 35 x = bI (fit x) := by rw [SC_A sμ (by decide) (by decide)]; exact hf x hx
    cases hF : fit x with
    | false =>
      rw [hF] at r35
      refine ⟨ξ, (.int (nI 0), v3, v4), ?_, sμ, fun y hy => ?_⟩
      · try dsimp only
        rw [go, i141_123]
        by_cases c : 0 < np
        · simp (disch := first | omega | assumption) only [i141_124, i141_125, i141_128, i141_131, i141_132, i141_135, i141_136, i141_137, i141_240, i141_243, gM0 hM, hnp, lt_t, if_true, gM22 hM, gb_A (aM35 hM) (Or.inl rfl), b_v_s, b_i_s, b_n_s, b_r_s, b_r_n, b_m_s, b_c_s, b_c_v, r35, bI_0, nI_add1]
        · simp (disch := first | omega | assumption) only [i141_124, i141_125, i141_128, i141_131, i141_132, i141_135, i141_136, i141_137, i141_240, i141_243, gM0 hM, hnp, lt_f, if_false, b_v_s, b_i_s, b_n_s, b_r_s, b_r_n, b_m_s, b_c_s, b_c_v, nI_add1]
      · rw [x36]
        by_cases q : y = x
        · rw [if_pos q, q]; unfold evx; rw [hF]; rfl
        · rw [if_neg q]; exact f y (by omega)
    | true =>
      rw [hF] at r35
      obtain ⟨ρ, w3, e3, s3, f3, g3⟩ := loop_inv (fun p ρ (v : Value × Value) => m_G 141 123 [.ref 19, .int (nI x), .int (nI p), v.1, v.2] [] ρ) (fun p ρ => SC [36] [] ξ ρ ∧ A ρ 36 x = nI (evn (cv x) np p) ∧ ∀ y, y < x → A ρ 36 y = A ξ 36 y) np (fun p ρ v hpn P => by
        obtain ⟨s', f', g'⟩ := P
        obtain ⟨v3, v4⟩ := v
        have hρ := s'.1
        have sρ := sμ.tr s'
        have hnp : FI ρ 19 0 = nI np := (sρ.2.2.2.2 0 (by decide)).trans hp
        have y35 : A ρ 35 x = bI true := by rw [SC_A s' (by decide) (by decide)]; exact r35
        have y37 : ∀ p, p < np → A ρ 37 (8 * x + p) = nI (cv x p) := fun p hp => by rw [SC_A sρ (by decide) (by decide)]; exact hc p hp x hx
        have ypn := y37 p hpn
        have l1 := hle x p
        have l2 := evn_le (cv x) np p
        have l3 := cnt_le (fun j => decide (cv x j = cv x p)) np
        have L := loop1 (fun j => m_G 141 145 [.ref 19, .int (nI x), .int (nI p), .int (nI (cnt (fun j => decide (cv x j = cv x p)) j)), .int (nI j)] [] ρ) np (fun j hj => by
          try dsimp only
          have yj := y37 j hj
          have l4 := hle x j
          rw [i141_145, cnt_st _ j]
          by_cases c : cv x j = cv x p
          · rw [decide_eq_true c, if_pos rfl]
            simp (disch := first | omega | assumption) only [i141_147, i141_148, i141_151, i141_154, i141_155, i141_156, i141_159, i141_161, i141_162, i141_163, i141_165, i141_166, i141_167, i141_168, i141_171, i141_173, i141_174, i141_175, i141_176, i141_177, i141_178, i141_181, i141_182, i141_185, i141_186, i141_187, i141_188, i141_191, gM0 hρ, hnp, lt_t, if_true, gM25 hρ, ga_A (aM37 hρ), b_v_s, b_i_s, b_n_s, b_r_s, b_r_n, b_m_s, b_c_s, b_c_v, n8', nI_times, nI_plus, yj, ypn, eq_t, nI_add1]
          · rw [decide_eq_false c, if_neg (by decide)]
            simp (disch := first | omega | assumption) only [i141_147, i141_148, i141_151, i141_154, i141_155, i141_156, i141_159, i141_161, i141_162, i141_163, i141_165, i141_166, i141_167, i141_168, i141_171, i141_173, i141_174, i141_175, i141_176, i141_177, i141_178, i141_181, i141_182, i141_185, i141_186, i141_187, i141_188, i141_191, gM0 hρ, hnp, lt_t, if_true, if_false, gM25 hρ, ga_A (aM37 hρ), b_v_s, b_i_s, b_n_s, b_r_s, b_r_n, b_m_s, b_c_s, b_c_v, n8', nI_times, nI_plus, yj, ypn, eq_f, nI_add1, Int32.add_zero, Nat.add_zero])
        refine ⟨wA ρ 36 (upd (A ρ 36) x (nI (evn (cv x) np (p + 1)))), (.int (nI (cnt (fun j => decide (cv x j = cv x p)) np)), .int (nI np)), ?_, s'.tr (SC_wA hρ (aM36 hρ) _ (by decide)), ?_, fun y hy => ?_⟩
        · try dsimp only
          rw [i141_123]
          simp (disch := first | omega | assumption) only [i141_124, i141_125, i141_128, i141_131, i141_132, i141_135, i141_136, i141_137, i141_140, i141_141, i141_142, i141_143, gM0 hρ, hnp, lt_t, if_true, if_false, gM22 hρ, gb_A (aM35 hρ) (Or.inl rfl), b_v_s, b_i_s, b_n_s, b_r_s, b_r_n, b_m_s, b_c_s, b_c_v, y35, bI_0, Bool.true_eq_false]
          refine (show _ = _ from L).trans ?_
          try dsimp only
          rw [i141_145, evn_st]
          generalize cnt (fun j => decide (cv x j = cv x p)) np = k at *
          by_cases c1 : cv x p = 0
          · rw [if_neg (by omega)]
            rw [c1] at ypn
            simp (disch := first | omega | assumption) only [i141_147, i141_148, i141_151, i141_194, i141_195, i141_198, i141_199, i141_200, i141_203, i141_205, i141_206, i141_207, i141_208, i141_209, i141_210, i141_213, i141_214, i141_215, i141_218, i141_219, i141_220, i141_223, i141_224, i141_227, i141_228, i141_231, i141_232, i141_233, i141_234, i141_237, gM0 hρ, hnp, lt_f, if_true, if_false, gM25 hρ, ga_A (aM37 hρ), gM24 hρ, ga_A (aM36 hρ), b_v_s, b_i_s, b_n_s, b_r_s, b_r_n, b_m_s, b_c_s, b_c_v, n8', nI_times, nI_plus, ypn, f', nI_le0, pa_A (aM36 hρ), nI_add1]
          · by_cases c2 : evn (cv x) np p < k
            · rw [if_pos ⟨by omega, c2⟩]
              simp (disch := first | omega | assumption) only [i141_147, i141_148, i141_151, i141_194, i141_195, i141_198, i141_199, i141_200, i141_203, i141_205, i141_206, i141_207, i141_208, i141_209, i141_210, i141_213, i141_214, i141_215, i141_218, i141_219, i141_220, i141_223, i141_224, i141_227, i141_228, i141_231, i141_232, i141_233, i141_234, i141_237, gM0 hρ, hnp, lt_f, if_true, if_false, gM25 hρ, ga_A (aM37 hρ), gM24 hρ, ga_A (aM36 hρ), b_v_s, b_i_s, b_n_s, b_r_s, b_r_n, b_m_s, b_c_s, b_c_v, n8', nI_times, nI_plus, ypn, c1, f', nI_le0, lt_t, pa_A (aM36 hρ), nI_add1]
            · rw [if_neg (fun q => c2 q.2)]
              simp (disch := first | omega | assumption) only [i141_147, i141_148, i141_151, i141_194, i141_195, i141_198, i141_199, i141_200, i141_203, i141_205, i141_206, i141_207, i141_208, i141_209, i141_210, i141_213, i141_214, i141_215, i141_218, i141_219, i141_220, i141_223, i141_224, i141_227, i141_228, i141_231, i141_232, i141_233, i141_234, i141_237, gM0 hρ, hnp, lt_f, if_true, if_false, gM25 hρ, ga_A (aM37 hρ), gM24 hρ, ga_A (aM36 hρ), b_v_s, b_i_s, b_n_s, b_r_s, b_r_n, b_m_s, b_c_s, b_c_v, n8', nI_times, nI_plus, ypn, c1, f', nI_le0, lt_f, pa_A (aM36 hρ), nI_add1]
        · rw [wA_A (aM36 hρ), if_pos rfl, upd_at, if_pos rfl]
        · rw [wA_A (aM36 hρ), if_pos rfl, upd_at, if_neg (by omega)]; exact g' y hy) ξ (v3, v4) ⟨SC.rf hM, by rw [x36, if_pos rfl]; rfl, fun y hy => rfl⟩
      have hρ := s3.1
      have sρ := sμ.tr s3
      have hnp3 : FI ρ 19 0 = nI np := (sρ.2.2.2.2 0 (by decide)).trans hp
      refine ⟨ρ, (.int (nI np), w3.1, w3.2), ?_, sρ, fun y hy => ?_⟩
      · try dsimp only
        rw [go]
        refine e3.trans ?_
        try dsimp only
        rw [i141_123]
        simp (disch := first | omega | assumption) only [i141_124, i141_125, i141_128, i141_240, i141_243, gM0 hρ, hnp3, lt_f, if_false, b_v_s, b_i_s, b_n_s, b_r_s, b_r_n, b_m_s, b_c_s, b_c_v, nI_add1]
      · by_cases q : y = x
        · rw [q, f3]; unfold evx; rw [hF, if_pos rfl]
        · rw [g3 y (by omega), x36, if_neg q]; exact f y (by omega)) μ (v2, v3, v4) ⟨SC.rf h, fun y hy => by omega⟩
  exact ⟨ν, w.1, w.2.1, w.2.2, e, s, f⟩
end evens2
section evens3
variable {μ : mM}
set_option maxHeartbeats 1000000 in
theorem E_findEvens {np : Nat} {fit : Nat → Bool} (h : MS μ) (hp : FI μ 19 0 = nI np) (hg : PGs (A μ 20) (A μ 23) np) (hf : ∀ x, x < 3615 → A μ 35 x = bI (fit x)) : ∃ ν, m_D 141 [.ref 19] μ = some (none, ν) ∧ SC [34, 36, 37] [] μ ν ∧ ∀ x, x < 3615 → A ν 36 x = nI (evx (cvv (A μ 20) (A μ 23) (A μ 21) (A μ 24) (A μ 25) fit) fit np x) := by
  have hnp8 := hg.1
  obtain ⟨ν1, w2, w3, e1, s1, f1⟩ := E_ev1 h hp hg hf m_d m_d
  have h1 := s1.1
  have hnp1 : FI ν1 19 0 = nI np := (s1.2.2.2.2 0 (by decide)).trans hp
  obtain ⟨ν2, u2, u3, u4, e2, s2, f2⟩ := E_ev2 (cv := cvv (A μ 20) (A μ 23) (A μ 21) (A μ 24) (A μ 25) fit) (fit := fit) h1 hnp1 hnp8 (fun x hx => by rw [SC_A s1 (by decide) (by decide)]; exact hf x hx) (fun x p => cvv_le _ _ _ _ _ _ _ _) f1 w2 w3 m_d
  refine ⟨ν2, ?_, (s1.mono (by decide) (by decide)).tr (s2.mono (by decide) (by decide)), f2⟩
  simp (disch := first | omega | assumption) only [D141, i141_0, i141_1]
  refine (show _ = _ from e1).trans ?_
  rw [i141_2]
  simp (disch := first | omega | assumption) only [i141_3, i141_4, i141_7, i141_105, i141_106, gM0 h1, hnp1, lt_f, if_false, b_v_s, b_i_s, b_n_s, b_r_s, b_r_n, b_m_s, b_c_s, b_c_v]
  refine (show _ = _ from e2).trans ?_
  rw [i141_107]
  simp (disch := first | omega | assumption) only [i141_108, i141_111, i141_246, n3615, lt_f, if_false]
end evens3
