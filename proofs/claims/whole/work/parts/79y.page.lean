section addp2
variable {C : Nat × (Nat → Int32)}
set_option maxHeartbeats 8000000 in
theorem call_page : CallOK C 64 115 [] := by
  rintro μ ⟨np, nr, nl, ns, PA, QA, LA, sh, I⟩
  have hC := I_C I
  have hoC := CV_oc hC
  have hM := I_M I
  have hoM := oM_oc hM
  have hnl := I_nl I
  have hnp := I_np I
  have hnr := I_nr I
  obtain ⟨ν1, e1, k1, f1⟩ := C_sirP hC I.2.1.2.1 I.2.2.2.1.1
  have J := INV_K I k1 (by decide) (by decide)
  have hC1 := I_C J
  have hM1 := I_M J
  have hoC1 := CV_oc hC1
  have hoM1 := oM_oc hM1
  have hle := flP_le sh ns 0 iniP
  have h90 := J.2.2.2.1.1.1
  have goC : m_D 64 [.ref 0] μ = m_G 64 8 [.ref 0] [.int (bI (okP sh ns))] ν1 := by
    simp (disch := first | omega | decide | with_reducible assumption) only [D64, i64_0, i64_1, i64_2, i64_5, gC8 hC, e1, b_v_s, b_i_s, b_n_s, b_r_s, b_r_n, b_m_s, b_c_s, b_c_v]
  have goM : ∀ ν ξ : mM, ∀ s', (flP sh ns 0 iniP).2 = some s' → m_oc ν 19 = some 9 → MS ξ → m_D 113 [.ref 19, .int 0] ν = some (some (.int (nI (flP sh ns 0 iniP).1)), ξ) → FI ξ 19 8 = nI ns → RM ξ s' → m_D 115 [.ref 19] ν = if okP sh ns = true then m_G 115 30 [.ref 19, .retAddr 1] [] ξ else some (some (.int (-103)), ξ) := fun ν ξ s' hfl ho hM2 e2 g8 hr => by
    have h1 : (flP sh ns 0 iniP).1 = ns := by
      have z : ¬ (flP sh ns 0 iniP).2 = none := by rw [hfl]; intro q; cases q
      have z2 : ¬ (flP sh ns 0 iniP).1 < 0 + ns := fun q => z (hle.2.mpr q)
      omega
    have pi := flP_PI sh ns 0 iniP s' PI_ini hfl
    have h24 := pi.2.1
    have h4 := pi.1
    obtain ⟨t1, t2, t3, t4⟩ := hr
    rw [h1] at e2
    have r2' := cI_mz (o := s'.2.2.1) (fun k hk => by have := pi.2.2.2.2.2.1 k hk; omega)
    have z9 : (nI s'.1 = (0 : Int32)) = (s'.1 = 0) := nI_eqE (by omega) (by decide)
    unfold okP
    rw [hfl]
    dsimp only
    by_cases d0 : s'.1 = 0
    · have nok : ¬ (decide (0 < s'.2.1) && decide (s'.2.2.1 = none)) = true := by
        rw [Bool.and_eq_true, decide_eq_true_eq, decide_eq_true_eq]
        rintro ⟨q1, q2⟩
        have := (pi.2.2.2.1 d0 q1).1
        rw [q2] at this
        cases this
      rw [if_neg nok]
      simp (disch := first | omega | decide | with_reducible assumption) only [D115, i115_0, i115_1, i115_2, i115_5, i115_6, i115_9, i115_12, i115_13, i115_16, i115_19, i115_20, i115_23, i115_24, i115_27, i115_29, e2, gM8 hM2, g8, lt_f, gM9 hM2, t1, z9, eq_true d0, b_v_s, b_i_s, b_n_s, b_r_s, b_r_n, b_m_s, b_c_s, b_c_v, if_true, if_false]
    · have q0 := pi.2.2.1 d0
      by_cases d2 : s'.2.2.1 = none
      · rw [if_pos (by rw [Bool.and_eq_true, decide_eq_true_eq, decide_eq_true_eq]; exact ⟨q0, d2⟩)]
        simp (disch := first | omega | decide | with_reducible assumption) only [D115, i115_0, i115_1, i115_2, i115_5, i115_6, i115_9, i115_12, i115_13, i115_16, i115_19, i115_20, i115_23, i115_24, i115_27, i115_29, e2, gM8 hM2, g8, lt_f, gM9 hM2, t1, z9, eq_false d0, gM14 hM2, t3, r2', eq_true d2, b_v_s, b_i_s, b_n_s, b_r_s, b_r_n, b_m_s, b_c_s, b_c_v, if_true, if_false]
      · rw [if_neg (by rw [Bool.and_eq_true, decide_eq_true_eq, decide_eq_true_eq]; exact fun z => d2 z.2)]
        simp (disch := first | omega | decide | with_reducible assumption) only [D115, i115_0, i115_1, i115_2, i115_5, i115_6, i115_9, i115_12, i115_13, i115_16, i115_19, i115_20, i115_23, i115_24, i115_27, i115_29, e2, gM8 hM2, g8, lt_f, gM9 hM2, t1, z9, eq_false d0, gM14 hM2, t3, r2', eq_false d2, b_v_s, b_i_s, b_n_s, b_r_s, b_r_n, b_m_s, b_c_s, b_c_v, if_false]
  cases hok : okP sh ns with
  | false =>
    rw [hok] at goC
    obtain ⟨ξ1, e2, k2, f2⟩ := E_faultP hM1 J.2.2.2.1.2
    have hM2 := MS_K hM1 k2
    have g8 : FI ξ1 19 8 = nI ns := by rw [K_FI k2 (by decide)]; exact J.2.2.2.1.2.2.1
    refine ⟨(-103), ν1, ξ1, ?_, ?_, I_ok (INV_K J k2 (by decide) (by decide))⟩
    · rw [goC]
      simp (disch := first | omega | decide | with_reducible assumption) only [i64_8, i64_11, i64_13, bI_0, if_true]
    · cases hfl : (flP sh ns 0 iniP).2 with
      | none =>
        have : (flP sh ns 0 iniP).1 < ns := by have := hle.2.mp hfl; omega
        simp (disch := first | omega | decide | with_reducible assumption) only [D115, i115_0, i115_1, i115_2, i115_5, i115_6, i115_9, i115_12, i115_13, i115_16, i115_19, i115_20, i115_23, i115_24, i115_27, i115_29, e2, gM8 hM2, g8, lt_t, b_v_s, b_i_s, b_n_s, b_r_s, b_r_n, b_m_s, b_c_s, b_c_v, if_true]
      | some s' =>
        rw [goM ν1 ξ1 s' hfl hoM1 hM2 e2 g8 (f2 s' hfl), hok, if_neg (by decide)]
  | true =>
    rw [hok] at goC
    obtain ⟨s', hfl, hs0, hs2⟩ : ∃ s', (flP sh ns 0 iniP).2 = some s' ∧ 0 < s'.2.1 ∧ s'.2.2.1 = none := by
      unfold okP at hok
      cases hfl : (flP sh ns 0 iniP).2 with
      | none => rw [hfl] at hok; cases hok
      | some s' =>
        rw [hfl] at hok
        dsimp only at hok
        rw [Bool.and_eq_true, decide_eq_true_eq, decide_eq_true_eq] at hok
        exact ⟨s', rfl, hok.1, hok.2⟩
    have pi := flP_PI sh ns 0 iniP s' PI_ini hfl
    have hn := pi.2.1
    have c3 : FI ν1 0 3 = nI np := J.2.2.1.2.2.2.1
    by_cases hfull : np = 8
    · subst hfull
      obtain ⟨ξ1, e2, k2, f2⟩ := E_faultP hM1 J.2.2.2.1.2
      have hM2 := MS_K hM1 k2
      have g8 : FI ξ1 19 8 = nI ns := by rw [K_FI k2 (by decide)]; exact J.2.2.2.1.2.2.1
      have g0 : FI ξ1 19 0 = nI 8 := by rw [K_FI k2 (by decide)]; exact J.2.2.1.1
      refine ⟨(-104), ν1, ξ1, ?_, ?_, I_ok (INV_K J k2 (by decide) (by decide))⟩
      · rw [goC]
        simp (disch := first | omega | decide | with_reducible assumption) only [i64_8, i64_11, i64_13, i64_14, i64_15, i64_18, i64_20, i64_23, i64_25, bI_0, Bool.true_eq_false, gC3 hC1, c3, n8', lt_f, b_v_s, b_i_s, b_n_s, b_r_s, b_r_n, b_m_s, b_c_s, b_c_v, if_false]
      · rw [goM ν1 ξ1 s' hfl hoM1 hM2 e2 g8 (f2 s' hfl), hok, if_pos rfl]
        simp (disch := first | omega | decide | with_reducible assumption) only [i115_30, i115_31, i115_34, i115_36, i115_39, i115_41, gM0 hM2, g0, n8', b_v_s, b_i_s, b_n_s, b_r_s, b_r_n, b_m_s, b_c_s, b_c_v, if_true]
    · sorry
end addp2
