/-! more calls that only tell -/
section calls2
variable {C : Nat × (Nat → Int32)} {μ : mM} {np nr nl ns : Nat} {PA QA LA sh : Nat → Nat}
theorem dph_fuel {PR : Nat → Int32} {p n : Nat} (hw : PW PR p n) : ∀ f f' c, c < n → c ≤ f → c ≤ f' → dph PR p f c = dph PR p f' c := by
  intro f
  induction f with
  | zero =>
    intro f' c hc h1 h2
    have : c = 0 := by omega
    subst this
    cases f' with
    | zero => rfl
    | succ f' => rw [dph, dph, if_pos rfl]
  | succ f ih =>
    intro f' c hc h1 h2
    by_cases e : c = 0
    · subst e
      cases f' with
      | zero => rw [dph, dph, if_pos rfl]
      | succ f' => rw [dph, dph, if_pos rfl, if_pos rfl]
    · cases f' with
      | zero => omega
      | succ f' =>
        have := up_lt hw (by omega) hc
        rw [dph, dph, if_neg e, if_neg e, ih f' (up PR p c) (by omega) (by omega) (by omega)]
theorem dph_le {PR : Nat → Int32} {p : Nat} : ∀ f c, dph PR p f c ≤ f := by
  intro f
  induction f with
  | zero => intro c; exact Nat.le_refl 0
  | succ f ih =>
    intro c
    rw [dph]
    split
    · omega
    · have := ih (up PR p c); omega
theorem E_depth {p b n : Nat} (h : MS μ) (hp : p < 8) (hn : n ≤ 24) (hw : PW (A μ 23) p n) (hb : b < n) : m_D 120 [.ref 19, .int (nI p), .int (nI b)] μ = some (some (.int (nI (dph (A μ 23) p 24 b))), μ) := by
  have key : ∀ c, c < n → ∀ m, m + c < 1000 → m_G 120 15 [.ref 19, .int (nI p), .int (nI b), .int (nI m), .int (A μ 23 (24 * p + c))] [] μ = some (some (.int (nI (m + dph (A μ 23) p 24 c))), μ) := by
    intro c
    induction c using Nat.strongRecOn with
    | ind c ih =>
      intro hc m hm
      by_cases e : c = 0
      · subst e
        have e0 : dph (A μ 23) p 24 0 = 0 := by rw [dph, if_pos rfl]
        rw [i120_15, Nat.add_zero, hw.1, e0]
        simp (disch := first | omega | decide | with_reducible assumption) only [i120_17, i120_18, i120_21, i120_22, i120_25, i120_27, i120_28, i120_29, i120_31, i120_32, i120_33, i120_35, i120_38, i120_41, i120_42, if_true, Nat.add_zero]
      · obtain ⟨h1, h2⟩ := hw.2 c (by omega) hc
        have e0 : dph (A μ 23) p 24 c = dph (A μ 23) p 24 (up (A μ 23) p c) + 1 := by
          rw [show (24 : Nat) = 23 + 1 from rfl, dph, if_neg e, dph_fuel hw 23 (23 + 1) (up (A μ 23) p c) (by omega) (by omega) (by omega)]
        have ih' := ih (up (A μ 23) p c) h2 (by omega) (m + 1) (by omega)
        rw [show m + dph (A μ 23) p 24 c = m + 1 + dph (A μ 23) p 24 (up (A μ 23) p c) by omega, ← ih', h1, i120_15]
        simp (disch := first | omega | decide | with_reducible assumption) only [i120_17, i120_18, i120_21, i120_22, i120_25, i120_27, i120_28, i120_29, i120_31, i120_32, i120_33, i120_35, i120_38, nI_ne1, if_false, gM4 h, ga_A (aM23 h), b_v_s, b_i_s, b_n_s, b_r_s, b_r_n, b_m_s, b_c_s, b_c_v, k24, nI_add1]
  have k0 := key b hb 0 (by omega)
  rw [Nat.zero_add] at k0
  simp (disch := first | omega | decide | with_reducible assumption) only [D120, i120_0, i120_1, i120_2, i120_3, i120_6, i120_8, i120_9, i120_10, i120_11, i120_12, i120_13, gM4 h, ga_A (aM23 h), b_v_s, b_i_s, b_n_s, b_r_s, b_r_n, b_m_s, b_c_s, b_c_v, k24]
  exact k0
theorem call_box (x y w : Int32) : CallOK C 71 122 [.int x, .int y, .int w] := by
  rintro μ ⟨np, nr, nl, ns, PA, QA, LA, sh, I⟩
  have hoC := CV_oc (I_C I)
  have hM := I_M I
  have hoM := oM_oc hM
  cases hx : inR x np with
  | false =>
    refine ⟨(-101), μ, μ, ?_, ?_, I_ok I⟩
    · simp (disch := first | omega | decide | with_reducible assumption) only [D71, i71_0, i71_1, i71_2, i71_5, i71_5N, i71_7, i71_7N, i71_9, i71_9N, i71_12, i71_12N, i71_14, i71_15, i71_18, i71_21, i71_23, C_pageAtN I hx, b_v_s, b_i_s, b_n_s, b_r_s, b_r_n, b_m_s, b_c_s, b_c_v]
    · simp (disch := first | omega | decide | with_reducible assumption) only [D122, i122_0, i122_1, i122_2, i122_3, i122_6, i122_9, i122_10, i122_11, i122_12, i122_13, i122_16, i122_19, i122_21, E_isBoxN I hx, b_v_s, b_i_s, b_n_s, b_r_s, b_r_n, b_m_s, b_c_s, b_c_v, if_true]
  | true =>
    obtain ⟨p, hp, rfl⟩ := inR_nI hx
    obtain ⟨h8, hb, h1, h24, hw, hww, hv, _⟩ := I_pg I hp
    have hat := C_pageAt I hp
    have hoP := P_oc hv
    have hib := E_isBox (b := y) I hp
    have hhas := C_has (x := y) hv
    generalize hn : bnn (A μ 20) p = n at *
    cases hy : inR y n with
    | false =>
      rw [hy] at hib hhas
      refine ⟨(-101), μ, μ, ?_, ?_, I_ok I⟩
      · simp (disch := first | omega | decide | with_reducible assumption) only [D71, i71_0, i71_1, i71_2, i71_5, i71_5N, i71_7, i71_7N, i71_9, i71_9N, i71_12, i71_12N, i71_14, i71_15, i71_18, i71_21, i71_23, hat, hhas, bI_0, b_v_s, b_i_s, b_n_s, b_r_s, b_r_n, b_m_s, b_c_s, b_c_v, if_true]
      · simp (disch := first | omega | decide | with_reducible assumption) only [D122, i122_0, i122_1, i122_2, i122_3, i122_6, i122_9, i122_10, i122_11, i122_12, i122_13, i122_16, i122_19, i122_21, hib, bI_0, b_v_s, b_i_s, b_n_s, b_r_s, b_r_n, b_m_s, b_c_s, b_c_v, if_true]
    | true =>
      rw [hy] at hib hhas
      obtain ⟨b, hbn, rfl⟩ := inR_nI hy
      have go1 : m_D 71 [.ref 0, .int (nI p), .int (nI b), .int w] μ = m_G 71 25 [.ref 0, .int (nI p), .int (nI b), .int w, .ref (PA p)] [.int w] μ := by
        simp (disch := first | omega | decide | with_reducible assumption) only [D71, i71_0, i71_1, i71_2, i71_5, i71_5N, i71_7, i71_7N, i71_9, i71_9N, i71_12, i71_12N, i71_14, i71_15, i71_18, i71_21, i71_23, i71_24, hat, hhas, bI_0, Bool.true_eq_false, b_v_s, b_i_s, b_n_s, b_r_s, b_r_n, b_m_s, b_c_s, b_c_v, if_false]
      have go2 : ∀ v : Value, m_D 121 [.ref 19, .int (nI p), .int (nI b), .int w] μ = some (some v, μ) → (∃ z, v = .int z) → m_D 122 [.ref 19, .int (nI p), .int (nI b), .int w] μ = some (some v, μ) := by
        rintro v hv ⟨z, rfl⟩
        simp (disch := first | omega | decide | with_reducible assumption) only [D122, i122_0, i122_1, i122_2, i122_3, i122_6, i122_9, i122_10, i122_11, i122_12, i122_13, i122_16, i122_19, i122_21, hib, hv, bI_0, Bool.true_eq_false, b_v_s, b_i_s, b_n_s, b_r_s, b_r_n, b_m_s, b_c_s, b_c_v, if_false]
      have hD := D121 (a0 := 19) (x0 := nI p) (x1 := nI b) (x2 := w) (μ := μ)
      cases hw5 : inR w 5 with
      | false =>
        have hd : w.toInt < 0 ∨ 4 < w.toInt := by
          unfold inR at hw5
          rw [decide_eq_false_iff_not] at hw5
          omega
        refine ⟨(-102), μ, μ, ?_, go2 _ ?_ ⟨_, rfl⟩, I_ok I⟩
        · rw [go1, i71_25_d hd]
          simp (disch := first | omega | decide | with_reducible assumption) only [i71_103, i71_105]
        · rw [hD, i121_0, i121_1_d hd]
          simp (disch := first | omega | decide | with_reducible assumption) only [i121_86, i121_88]
      | true =>
        obtain ⟨t, ht, rfl⟩ := inR_nI hw5
        rcases (show t = 0 ∨ t = 1 ∨ t = 2 ∨ t = 3 ∨ t = 4 by omega) with rfl | rfl | rfl | rfl | rfl
        · refine ⟨(A μ 21 (24 * p + b)), μ, μ, ?_, go2 _ ?_ ⟨_, rfl⟩, I_ok I⟩
          · rw [go1, show nI 0 = 0 from rfl]
            simp (disch := first | omega | decide | with_reducible assumption) only [i71_25_0, i71_60, i71_60N, i71_62, i71_65, i71_66, i71_67, P_fkinds hv, P_kinds hv, b_v_s, b_i_s, b_n_s, b_r_s, b_r_n, b_m_s, b_c_s, b_c_v]
          · rw [hD, show nI 0 = 0 from rfl]
            simp (disch := first | omega | decide | with_reducible assumption) only [i121_0, i121_1_0, i121_36, i121_37, i121_40, i121_42, i121_43, i121_44, i121_45, i121_46, i121_47, gM2 hM, ga_A (aM21 hM), b_v_s, b_i_s, b_n_s, b_r_s, b_r_n, b_m_s, b_c_s, b_c_v, k24]
        · refine ⟨(A μ 22 (24 * p + b)), μ, μ, ?_, go2 _ ?_ ⟨_, rfl⟩, I_ok I⟩
          · rw [go1, show nI 1 = 1 from rfl]
            simp (disch := first | omega | decide | with_reducible assumption) only [i71_25_1, i71_68, i71_68N, i71_70, i71_73, i71_74, i71_75, P_fwords hv, P_words hv, b_v_s, b_i_s, b_n_s, b_r_s, b_r_n, b_m_s, b_c_s, b_c_v]
          · rw [hD, show nI 1 = 1 from rfl]
            simp (disch := first | omega | decide | with_reducible assumption) only [i121_0, i121_1_1, i121_48, i121_49, i121_52, i121_54, i121_55, i121_56, i121_57, i121_58, i121_59, gM3 hM, ga_A (aM22 hM), b_v_s, b_i_s, b_n_s, b_r_s, b_r_n, b_m_s, b_c_s, b_c_v, k24]
        · refine ⟨(A μ 23 (24 * p + b)), μ, μ, ?_, go2 _ ?_ ⟨_, rfl⟩, I_ok I⟩
          · rw [go1, show nI 2 = 2 from rfl]
            simp (disch := first | omega | decide | with_reducible assumption) only [i71_25_2, i71_76, i71_76N, i71_78, i71_81, i71_82, i71_83, P_fparents hv, P_parents hv, b_v_s, b_i_s, b_n_s, b_r_s, b_r_n, b_m_s, b_c_s, b_c_v]
          · rw [hD, show nI 2 = 2 from rfl]
            simp (disch := first | omega | decide | with_reducible assumption) only [i121_0, i121_1_2, i121_60, i121_61, i121_64, i121_66, i121_67, i121_68, i121_69, i121_70, i121_71, gM4 hM, ga_A (aM23 hM), b_v_s, b_i_s, b_n_s, b_r_s, b_r_n, b_m_s, b_c_s, b_c_v, k24]
        · have e1 := E_innerMany (b := nI b) hM h8 h24 hb
          have e2 := C_bc (μ := μ) (s := inn (A μ 23) p n b) (mk_lt h24)
          have e3 : cnt (bt (inn (A μ 23) p n b)) 24 = cnt (fun c => decide (A μ 23 (24 * p + c) = nI b)) n := cnt_mk _ h24
          rw [e3] at e2
          refine ⟨(nI (cnt (fun c => decide (A μ 23 (24 * p + c) = nI b)) n)), μ, μ, ?_, go2 _ ?_ ⟨_, rfl⟩, I_ok I⟩
          · rw [go1, show nI 3 = 3 from rfl]
            simp (disch := first | omega | decide | with_reducible assumption) only [i71_25_3, i71_84, i71_84N, i71_86, i71_89, i71_90, i71_91, i71_94, P_finner hv, P_inner hv, b_v_s, b_i_s, b_n_s, b_r_s, b_r_n, b_m_s, b_c_s, b_c_v, e2]
          · rw [hD, show nI 3 = 3 from rfl]
            simp (disch := first | omega | decide | with_reducible assumption) only [i121_0, i121_1_3, i121_72, i121_73, i121_74, i121_75, i121_78, b_v_s, b_i_s, b_n_s, b_r_s, b_r_n, b_m_s, b_c_s, b_c_v, e1]
        · have e1 := E_depth (b := b) hM h8 h24 hw hbn
          refine ⟨(nI (dph (A μ 23) p 24 b)), μ, μ, ?_, go2 _ ?_ ⟨_, rfl⟩, I_ok I⟩
          · rw [go1, show nI 4 = 4 from rfl]
            simp (disch := first | omega | decide | with_reducible assumption) only [i71_25_4, i71_95, i71_95N, i71_97, i71_100, i71_101, i71_102, P_fdepths hv, P_depths hv, b_v_s, b_i_s, b_n_s, b_r_s, b_r_n, b_m_s, b_c_s, b_c_v]
          · rw [hD, show nI 4 = 4 from rfl]
            simp (disch := first | omega | decide | with_reducible assumption) only [i121_0, i121_1_4, i121_79, i121_80, i121_81, i121_82, i121_85, b_v_s, b_i_s, b_n_s, b_r_s, b_r_n, b_m_s, b_c_s, b_c_v, e1]
theorem call_gives (x y : Int32) : CallOK C 72 128 [.int x, .int y] := by
  rintro μ ⟨np, nr, nl, ns, PA, QA, LA, sh, I⟩
  have hoC := CV_oc (I_C I)
  have hoM := oM_oc (I_M I)
  have hr := I_isRule I x
  have hpg := I_isPage I y
  cases hx : inR x nr with
  | false =>
    rw [hx] at hr
    refine ⟨(-101), μ, μ, ?_, ?_, I_ok I⟩
    · cases hy : inR y np with
      | false => simp (disch := first | omega | decide | with_reducible assumption) only [D72, i72_0, i72_1, i72_2, i72_5, i72_5N, i72_6, i72_7, i72_8, i72_11, i72_11N, i72_13, i72_13N, i72_14, i72_14N, i72_17, i72_17N, i72_19, i72_19N, i72_22, i72_24, C_ruleAtN I hx, C_pageAtN I hy, b_v_s, b_i_s, b_n_s, b_r_s, b_r_n, b_m_s, b_c_s, b_c_v]
      | true =>
        obtain ⟨p, hp, rfl⟩ := inR_nI hy
        simp (disch := first | omega | decide | with_reducible assumption) only [D72, i72_0, i72_1, i72_2, i72_5, i72_5N, i72_6, i72_7, i72_8, i72_11, i72_11N, i72_13, i72_13N, i72_14, i72_14N, i72_17, i72_17N, i72_19, i72_19N, i72_22, i72_24, C_ruleAtN I hx, C_pageAt I hp, b_v_s, b_i_s, b_n_s, b_r_s, b_r_n, b_m_s, b_c_s, b_c_v]
    · simp (disch := first | omega | decide | with_reducible assumption) only [D128, i128_0, i128_1, i128_2, i128_5, i128_8, i128_9, i128_10, i128_13, i128_16, i128_17, i128_18, i128_19, i128_22, i128_25, i128_27, hr, bI_0, b_v_s, b_i_s, b_n_s, b_r_s, b_r_n, b_m_s, b_c_s, b_c_v, if_true]
  | true =>
    rw [hx] at hr
    obtain ⟨r, hr1, rfl⟩ := inR_nI hx
    cases hy : inR y np with
    | false =>
      rw [hy] at hpg
      refine ⟨(-101), μ, μ, ?_, ?_, I_ok I⟩
      · simp (disch := first | omega | decide | with_reducible assumption) only [D72, i72_0, i72_1, i72_2, i72_5, i72_5N, i72_6, i72_7, i72_8, i72_11, i72_11N, i72_13, i72_13N, i72_14, i72_14N, i72_17, i72_17N, i72_19, i72_19N, i72_22, i72_24, C_ruleAt I hr1, C_pageAtN I hy, b_v_s, b_i_s, b_n_s, b_r_s, b_r_n, b_m_s, b_c_s, b_c_v]
      · simp (disch := first | omega | decide | with_reducible assumption) only [D128, i128_0, i128_1, i128_2, i128_5, i128_8, i128_9, i128_10, i128_13, i128_16, i128_17, i128_18, i128_19, i128_22, i128_25, i128_27, hr, hpg, bI_0, Bool.true_eq_false, b_v_s, b_i_s, b_n_s, b_r_s, b_r_n, b_m_s, b_c_s, b_c_v, if_true, if_false]
    | true =>
      rw [hy] at hpg
      obtain ⟨p, hp, rfl⟩ := inR_nI hy
      have hor := (I_ru I hr1).2.2.2
      refine ⟨(giv μ r p (bnn (A μ 20) p) 1), μ, μ, ?_, ?_, I_ok I⟩
      · simp (disch := first | omega | decide | with_reducible assumption) only [D72, i72_0, i72_1, i72_2, i72_5, i72_5N, i72_6, i72_7, i72_8, i72_11, i72_11N, i72_13, i72_13N, i72_14, i72_14N, i72_17, i72_17N, i72_19, i72_19N, i72_22, i72_24, i72_25, i72_25N, i72_26, i72_26N, i72_28, i72_29, i72_32, C_ruleAt I hr1, C_pageAt I hp, C_dr1 I hr1 hp, b_v_s, b_i_s, b_n_s, b_r_s, b_r_n, b_m_s, b_c_s, b_c_v]
      · simp (disch := first | omega | decide | with_reducible assumption) only [D128, i128_0, i128_1, i128_2, i128_5, i128_8, i128_9, i128_10, i128_13, i128_16, i128_17, i128_18, i128_19, i128_22, i128_25, i128_27, hr, hpg, bI_0, Bool.true_eq_false, E_gn I hr1 hp, b_v_s, b_i_s, b_n_s, b_r_s, b_r_n, b_m_s, b_c_s, b_c_v, if_false]
theorem call_word (x y i : Int32) : CallOK C 73 130 [.int x, .int y, .int i] := by
  rintro μ ⟨np, nr, nl, ns, PA, QA, LA, sh, I⟩
  have hoC := CV_oc (I_C I)
  have hM := I_M I
  have hoM := oM_oc hM
  have hr := I_isRule I x
  have hpg := I_isPage I y
  cases hx : inR x nr with
  | false =>
    rw [hx] at hr
    refine ⟨(-101), μ, μ, ?_, ?_, I_ok I⟩
    · cases hy : inR y np with
      | false => simp (disch := first | omega | decide | with_reducible assumption) only [D73, i73_0, i73_1, i73_2, i73_5, i73_5N, i73_7, i73_8, i73_9, i73_12, i73_12N, i73_14, i73_14N, i73_16, i73_16N, i73_19, i73_19N, i73_21, i73_21N, i73_24, i73_26, C_ruleAtN I hx, C_pageAtN I hy, b_v_s, b_i_s, b_n_s, b_r_s, b_r_n, b_m_s, b_c_s, b_c_v]
      | true =>
        obtain ⟨p, hp, rfl⟩ := inR_nI hy
        simp (disch := first | omega | decide | with_reducible assumption) only [D73, i73_0, i73_1, i73_2, i73_5, i73_5N, i73_7, i73_8, i73_9, i73_12, i73_12N, i73_14, i73_14N, i73_16, i73_16N, i73_19, i73_19N, i73_21, i73_21N, i73_24, i73_26, C_ruleAtN I hx, C_pageAt I hp, b_v_s, b_i_s, b_n_s, b_r_s, b_r_n, b_m_s, b_c_s, b_c_v]
    · simp (disch := first | omega | decide | with_reducible assumption) only [D130, i130_0, i130_1, i130_2, i130_5, i130_8, i130_9, i130_10, i130_13, i130_16, i130_18, hr, bI_0, b_v_s, b_i_s, b_n_s, b_r_s, b_r_n, b_m_s, b_c_s, b_c_v, if_true]
  | true =>
    rw [hx] at hr
    obtain ⟨r, hr1, rfl⟩ := inR_nI hx
    cases hy : inR y np with
    | false =>
      rw [hy] at hpg
      refine ⟨(-101), μ, μ, ?_, ?_, I_ok I⟩
      · simp (disch := first | omega | decide | with_reducible assumption) only [D73, i73_0, i73_1, i73_2, i73_5, i73_5N, i73_7, i73_8, i73_9, i73_12, i73_12N, i73_14, i73_14N, i73_16, i73_16N, i73_19, i73_19N, i73_21, i73_21N, i73_24, i73_26, C_ruleAt I hr1, C_pageAtN I hy, b_v_s, b_i_s, b_n_s, b_r_s, b_r_n, b_m_s, b_c_s, b_c_v]
      · simp (disch := first | omega | decide | with_reducible assumption) only [D130, i130_0, i130_1, i130_2, i130_5, i130_8, i130_9, i130_10, i130_13, i130_16, i130_18, hr, hpg, bI_0, Bool.true_eq_false, b_v_s, b_i_s, b_n_s, b_r_s, b_r_n, b_m_s, b_c_s, b_c_v, if_true, if_false]
    | true =>
      rw [hy] at hpg
      obtain ⟨p, hp, rfl⟩ := inR_nI hy
      have hor := (I_ru I hr1).2.2.2
      obtain ⟨h8, hb, h1, h24, hw, hww, hv, _⟩ := I_pg I hp
      have hgl := giv_lt (μ := μ) (r := r) (p := p) h24 (one_lt h1)
      have hc := C_dr1 I hr1 hp
      have hm := E_gn I hr1 hp
      generalize giv μ r p (bnn (A μ 20) p) 1 = G at *
      rcases nthS_sp G i with z | ⟨b, b1, b2, b3⟩
      · refine ⟨(-2), μ, μ, ?_, ?_, I_ok I⟩
        · simp (disch := first | omega | decide | with_reducible assumption) only [D73, i73_0, i73_1, i73_2, i73_5, i73_5N, i73_7, i73_8, i73_9, i73_12, i73_12N, i73_14, i73_14N, i73_16, i73_16N, i73_19, i73_19N, i73_21, i73_21N, i73_24, i73_26, i73_27, i73_27N, i73_29, i73_29N, i73_31, i73_32, i73_35, i73_36, i73_39, i73_41, i73_43, i73_44, i73_47, i73_49, i73_52, i73_52N, i73_54, i73_57, i73_59, i73_60, C_ruleAt I hr1, C_pageAt I hp, hc, C_nth, z, b_v_s, b_i_s, b_n_s, b_r_s, b_r_n, b_m_s, b_c_s, b_c_v, if_true]
        · simp (disch := first | omega | decide | with_reducible assumption) only [D130, i130_0, i130_1, i130_2, i130_5, i130_8, i130_9, i130_10, i130_13, i130_16, i130_18, i130_19, i130_20, i130_21, i130_22, i130_25, i130_26, i130_29, i130_31, i130_33, i130_34, i130_37, i130_39, i130_42, i130_43, i130_46, i130_48, i130_49, i130_50, i130_52, i130_53, i130_54, hr, hpg, bI_0, Bool.true_eq_false, hm, E_nthM, z, b_v_s, b_i_s, b_n_s, b_r_s, b_r_n, b_m_s, b_c_s, b_c_v, if_true, if_false]
      · have hbn := hgl b b2
        refine ⟨(A μ 22 (24 * p + b)), μ, μ, ?_, ?_, I_ok I⟩
        · simp (disch := first | omega | decide | with_reducible assumption) only [D73, i73_0, i73_1, i73_2, i73_5, i73_5N, i73_7, i73_8, i73_9, i73_12, i73_12N, i73_14, i73_14N, i73_16, i73_16N, i73_19, i73_19N, i73_21, i73_21N, i73_24, i73_26, i73_27, i73_27N, i73_29, i73_29N, i73_31, i73_32, i73_35, i73_36, i73_39, i73_41, i73_43, i73_44, i73_47, i73_49, i73_52, i73_52N, i73_54, i73_57, i73_59, i73_60, C_ruleAt I hr1, C_pageAt I hp, hc, C_nth, b3, nI_ne1, P_fwords hv, P_words hv, b_v_s, b_i_s, b_n_s, b_r_s, b_r_n, b_m_s, b_c_s, b_c_v, if_false]
        · simp (disch := first | omega | decide | with_reducible assumption) only [D130, i130_0, i130_1, i130_2, i130_5, i130_8, i130_9, i130_10, i130_13, i130_16, i130_18, i130_19, i130_20, i130_21, i130_22, i130_25, i130_26, i130_29, i130_31, i130_33, i130_34, i130_37, i130_39, i130_42, i130_43, i130_46, i130_48, i130_49, i130_50, i130_52, i130_53, i130_54, hr, hpg, bI_0, Bool.true_eq_false, hm, E_nthM, b3, nI_ne1, gM3 hM, ga_A (aM22 hM), k24, b_v_s, b_i_s, b_n_s, b_r_s, b_r_n, b_m_s, b_c_s, b_c_v, if_false]
theorem call_within (x y z : Int32) : CallOK C 74 131 [.int x, .int y, .int z] := by
  rintro μ ⟨np, nr, nl, ns, PA, QA, LA, sh, I⟩
  have hoC := CV_oc (I_C I)
  have hM := I_M I
  have hoM := oM_oc hM
  have hr := I_isRule I x
  cases hx : inR x nr with
  | false =>
    rw [hx] at hr
    refine ⟨(-101), μ, μ, ?_, ?_, I_ok I⟩
    · cases hy : inR y np with
      | false => simp (disch := first | omega | decide | with_reducible assumption) only [D74, i74_0, i74_1, i74_2, i74_5, i74_5N, i74_7, i74_8, i74_9, i74_12, i74_12N, i74_14, i74_14N, i74_16, i74_16N, i74_19, i74_19N, i74_21, i74_21N, i74_24, i74_24N, i74_26, i74_27, i74_30, i74_33, i74_35, C_ruleAtN I hx, C_pageAtN I hy, b_v_s, b_i_s, b_n_s, b_r_s, b_r_n, b_m_s, b_c_s, b_c_v]
      | true =>
        obtain ⟨p, hp, rfl⟩ := inR_nI hy
        simp (disch := first | omega | decide | with_reducible assumption) only [D74, i74_0, i74_1, i74_2, i74_5, i74_5N, i74_7, i74_8, i74_9, i74_12, i74_12N, i74_14, i74_14N, i74_16, i74_16N, i74_19, i74_19N, i74_21, i74_21N, i74_24, i74_24N, i74_26, i74_27, i74_30, i74_33, i74_35, C_ruleAtN I hx, C_pageAt I hp, b_v_s, b_i_s, b_n_s, b_r_s, b_r_n, b_m_s, b_c_s, b_c_v]
    · simp (disch := first | omega | decide | with_reducible assumption) only [D131, i131_0, i131_1, i131_2, i131_5, i131_8, i131_9, i131_10, i131_11, i131_14, i131_17, i131_18, i131_19, i131_20, i131_21, i131_22, i131_23, i131_26, i131_29, i131_31, hr, bI_0, b_v_s, b_i_s, b_n_s, b_r_s, b_r_n, b_m_s, b_c_s, b_c_v, if_true]
  | true =>
    rw [hx] at hr
    obtain ⟨r, hr1, rfl⟩ := inR_nI hx
    cases hy : inR y np with
    | false =>
      refine ⟨(-101), μ, μ, ?_, ?_, I_ok I⟩
      · simp (disch := first | omega | decide | with_reducible assumption) only [D74, i74_0, i74_1, i74_2, i74_5, i74_5N, i74_7, i74_8, i74_9, i74_12, i74_12N, i74_14, i74_14N, i74_16, i74_16N, i74_19, i74_19N, i74_21, i74_21N, i74_24, i74_24N, i74_26, i74_27, i74_30, i74_33, i74_35, C_ruleAt I hr1, C_pageAtN I hy, b_v_s, b_i_s, b_n_s, b_r_s, b_r_n, b_m_s, b_c_s, b_c_v]
      · simp (disch := first | omega | decide | with_reducible assumption) only [D131, i131_0, i131_1, i131_2, i131_5, i131_8, i131_9, i131_10, i131_11, i131_14, i131_17, i131_18, i131_19, i131_20, i131_21, i131_22, i131_23, i131_26, i131_29, i131_31, hr, E_isBoxN I hy, bI_0, Bool.true_eq_false, b_v_s, b_i_s, b_n_s, b_r_s, b_r_n, b_m_s, b_c_s, b_c_v, if_true, if_false]
    | true =>
      obtain ⟨p, hp, rfl⟩ := inR_nI hy
      have hor := (I_ru I hr1).2.2.2
      obtain ⟨h8, hb, h1, h24, hw, hww, hv, _⟩ := I_pg I hp
      have hoP := P_oc hv
      have hib := E_isBox (b := z) I hp
      have hhas := C_has (x := z) hv
      cases hz : inR z (bnn (A μ 20) p) with
      | false =>
        rw [hz] at hib hhas
        refine ⟨(-101), μ, μ, ?_, ?_, I_ok I⟩
        · simp (disch := first | omega | decide | with_reducible assumption) only [D74, i74_0, i74_1, i74_2, i74_5, i74_5N, i74_7, i74_8, i74_9, i74_12, i74_12N, i74_14, i74_14N, i74_16, i74_16N, i74_19, i74_19N, i74_21, i74_21N, i74_24, i74_24N, i74_26, i74_27, i74_30, i74_33, i74_35, C_ruleAt I hr1, C_pageAt I hp, hhas, bI_0, b_v_s, b_i_s, b_n_s, b_r_s, b_r_n, b_m_s, b_c_s, b_c_v, if_true]
        · simp (disch := first | omega | decide | with_reducible assumption) only [D131, i131_0, i131_1, i131_2, i131_5, i131_8, i131_9, i131_10, i131_11, i131_14, i131_17, i131_18, i131_19, i131_20, i131_21, i131_22, i131_23, i131_26, i131_29, i131_31, hr, hib, bI_0, Bool.true_eq_false, b_v_s, b_i_s, b_n_s, b_r_s, b_r_n, b_m_s, b_c_s, b_c_v, if_true, if_false]
      | true =>
        rw [hz] at hib hhas
        obtain ⟨b, hbn, rfl⟩ := inR_nI hz
        have hc := C_dr I hr1 hp (sb_lt hbn h24)
        have hm := E_gf (s := sb b) I hr1 hp
        refine ⟨(giv μ r p (bnn (A μ 20) p) (sb b)), μ, μ, ?_, ?_, I_ok I⟩
        · simp (disch := first | omega | decide | with_reducible assumption) only [D74, i74_0, i74_1, i74_2, i74_5, i74_5N, i74_7, i74_8, i74_9, i74_12, i74_12N, i74_14, i74_14N, i74_16, i74_16N, i74_19, i74_19N, i74_21, i74_21N, i74_24, i74_24N, i74_26, i74_27, i74_30, i74_33, i74_35, i74_36, i74_36N, i74_38, i74_38N, i74_40, i74_41, i74_42, i74_43, i74_46, C_ruleAt I hr1, C_pageAt I hp, hhas, bI_0, Bool.true_eq_false, sb_def, hc, b_v_s, b_i_s, b_n_s, b_r_s, b_r_n, b_m_s, b_c_s, b_c_v, if_false]
        · simp (disch := first | omega | decide | with_reducible assumption) only [D131, i131_0, i131_1, i131_2, i131_5, i131_8, i131_9, i131_10, i131_11, i131_14, i131_17, i131_18, i131_19, i131_20, i131_21, i131_22, i131_23, i131_26, i131_29, i131_31, hr, hib, bI_0, Bool.true_eq_false, sb_def, hm, b_v_s, b_i_s, b_n_s, b_r_s, b_r_n, b_m_s, b_c_s, b_c_v, if_false]
/-- the word of the first box that a rule gives from one -/
def fwd (μ : mM) (r p b : Nat) : Int32 := if giv μ r p (bnn (A μ 20) p) (sb b) = 0 then -1 else A μ 22 (24 * p + (nthS (giv μ r p (bnn (A μ 20) p) (sb b)) 0).toNatClampNeg)
theorem C_firstWord {r p b : Nat} (I : INV C μ np nr nl ns PA QA LA sh) (hr1 : r < nr) (hp : p < np) (hbn : b < bnn (A μ 20) p) : m_D 50 [.ref (QA r), .ref (PA p), .int (nI b)] μ = some (some (.int (fwd μ r p b)), μ) := by
  obtain ⟨h8, hb, h1, h24, hw, hww, hv, _⟩ := I_pg I hp
  have hor := (I_ru I hr1).2.2.2
  have hc := C_dr I hr1 hp (sb_lt hbn h24)
  have hgl := giv_lt (μ := μ) (r := r) (p := p) h24 (sb_lt hbn h24)
  unfold fwd
  generalize giv μ r p (bnn (A μ 20) p) (sb b) = G at *
  have h0 := nthS_0 (s := G) (fun i hi => by have := hgl i hi; omega)
  by_cases z : G = 0
  · have hN : nthS G 0 = -1 := by rw [h0]; exact z
    rw [if_pos z]
    simp (disch := first | omega | decide | with_reducible assumption) only [D50, i50_0, i50_1, i50_2, i50_3, i50_4, i50_5, i50_8, i50_9, i50_12, i50_13, i50_14, i50_15, i50_18, i50_19, i50_22, i50_23, i50_26, i50_27, i50_28, sb_def, hc, C_nth, hN, b_v_s, b_i_s, b_n_s, b_r_s, b_r_n, b_m_s, b_c_s, b_c_v, if_true]
  · rw [if_neg z]
    rcases nthS_sp G 0 with q | ⟨c, c1, c2, c3⟩
    · rw [h0] at q; exact absurd q z
    · have hcn := hgl c c2
      rw [c3, nI_clamp (by omega)]
      simp (disch := first | omega | decide | with_reducible assumption) only [D50, i50_0, i50_1, i50_2, i50_3, i50_4, i50_5, i50_8, i50_9, i50_12, i50_13, i50_14, i50_15, i50_18, i50_19, i50_22, i50_23, i50_26, i50_27, i50_28, sb_def, hc, C_nth, c3, nI_ne1, P_fwords hv, P_words hv, b_v_s, b_i_s, b_n_s, b_r_s, b_r_n, b_m_s, b_c_s, b_c_v, if_false]
theorem E_firstWord {r p b : Nat} (I : INV C μ np nr nl ns PA QA LA sh) (hr1 : r < nr) (hp : p < np) (hbn : b < bnn (A μ 20) p) : m_D 162 [.ref 19, .int (nI r), .int (nI p), .int (nI b)] μ = some (some (.int (fwd μ r p b)), μ) := by
  obtain ⟨h8, hb, h1, h24, hw, hww, hv, _⟩ := I_pg I hp
  have hM := I_M I
  have hoM := oM_oc hM
  have hm := E_gf (s := sb b) I hr1 hp
  have hgl := giv_lt (μ := μ) (r := r) (p := p) h24 (sb_lt hbn h24)
  unfold fwd
  generalize giv μ r p (bnn (A μ 20) p) (sb b) = G at *
  have h0 := nthS_0 (s := G) (fun i hi => by have := hgl i hi; omega)
  by_cases z : G = 0
  · rw [if_pos z]
    simp (disch := first | omega | decide | with_reducible assumption) only [D162, i162_0, i162_1, i162_2, i162_3, i162_4, i162_5, i162_6, i162_9, i162_11, i162_13, i162_16, i162_17, i162_20, i162_21, i162_24, i162_26, i162_27, i162_28, i162_30, i162_31, i162_34, i162_35, i162_36, sb_def, hm, z, b_v_s, b_i_s, b_n_s, b_r_s, b_r_n, b_m_s, b_c_s, b_c_v, if_true]
  · rw [if_neg z]
    rcases nthS_sp G 0 with q | ⟨c, c1, c2, c3⟩
    · rw [h0] at q; exact absurd q z
    · have hcn := hgl c c2
      rw [c3, nI_clamp (by omega)]
      simp (disch := first | omega | decide | with_reducible assumption) only [D162, i162_0, i162_1, i162_2, i162_3, i162_4, i162_5, i162_6, i162_9, i162_11, i162_13, i162_16, i162_17, i162_20, i162_21, i162_24, i162_26, i162_27, i162_28, i162_30, i162_31, i162_34, i162_35, i162_36, sb_def, hm, z, E_nthM, c3, gM3 hM, ga_A (aM22 hM), k24, b_v_s, b_i_s, b_n_s, b_r_s, b_r_n, b_m_s, b_c_s, b_c_v, if_false]
theorem call_key (x y z i : Int32) : CallOK C 91 164 [.int x, .int y, .int z, .int i] := by
  rintro μ ⟨np, nr, nl, ns, PA, QA, LA, sh, I⟩
  have hoC := CV_oc (I_C I)
  have hoM := oM_oc (I_M I)
  have hr := I_isRule I x
  have hk := I_isRule I y
  have hpg := I_isPage I z
  have bad : (inR x nr && (inR y nr && inR z np)) = false → ∃ v μ1 μ2, m_D 91 (.ref 0 :: [.int x, .int y, .int z, .int i]) μ = some (some (.int v), μ1) ∧ m_D 164 (.ref 19 :: [.int x, .int y, .int z, .int i]) μ1 = some (some (.int v), μ2) ∧ OKc C μ2 := by
    intro hbad
    refine ⟨(-101), μ, μ, ?_, ?_, I_ok I⟩
    · cases hx : inR x nr <;> cases hy : inR y nr <;> cases hz : inR z np <;> (first | (rw [hx, hy, hz] at hbad; exact absurd hbad (by decide)) | skip) <;> (
        (first | have a1 := C_ruleAtN I hx | (obtain ⟨r, hr1, rfl⟩ := inR_nI hx; have a1 := C_ruleAt I hr1))
        (first | have a2 := C_ruleAtN I hy | (obtain ⟨r, hr1, rfl⟩ := inR_nI hy; have a2 := C_ruleAt I hr1))
        (first | have a3 := C_pageAtN I hz | (obtain ⟨r, hr1, rfl⟩ := inR_nI hz; have a3 := C_pageAt I hr1))
        simp (disch := first | omega | decide | with_reducible assumption) only [D91, i91_0, i91_1, i91_2, i91_5, i91_5N, i91_7, i91_8, i91_9, i91_12, i91_12N, i91_14, i91_15, i91_16, i91_19, i91_19N, i91_21, i91_21N, i91_23, i91_23N, i91_26, i91_26N, i91_28, i91_28N, i91_31, i91_31N, i91_33, i91_33N, i91_36, i91_38, a1, a2, a3, b_v_s, b_i_s, b_n_s, b_r_s, b_r_n, b_m_s, b_c_s, b_c_v])
    · cases hx : inR x nr with
      | false =>
        rw [hx] at hr
        simp (disch := first | omega | decide | with_reducible assumption) only [D164, i164_0, i164_1, i164_2, i164_5, i164_8, i164_9, i164_10, i164_13, i164_16, i164_17, i164_18, i164_21, i164_24, i164_26, hr, bI_0, b_v_s, b_i_s, b_n_s, b_r_s, b_r_n, b_m_s, b_c_s, b_c_v, if_true]
      | true =>
        rw [hx] at hr
        cases hy : inR y nr with
        | false =>
          rw [hy] at hk
          simp (disch := first | omega | decide | with_reducible assumption) only [D164, i164_0, i164_1, i164_2, i164_5, i164_8, i164_9, i164_10, i164_13, i164_16, i164_17, i164_18, i164_21, i164_24, i164_26, hr, hk, bI_0, Bool.true_eq_false, b_v_s, b_i_s, b_n_s, b_r_s, b_r_n, b_m_s, b_c_s, b_c_v, if_true, if_false]
        | true =>
          rw [hy] at hk
          cases hz : inR z np with
          | false =>
            rw [hz] at hpg
            simp (disch := first | omega | decide | with_reducible assumption) only [D164, i164_0, i164_1, i164_2, i164_5, i164_8, i164_9, i164_10, i164_13, i164_16, i164_17, i164_18, i164_21, i164_24, i164_26, hr, hk, hpg, bI_0, Bool.true_eq_false, b_v_s, b_i_s, b_n_s, b_r_s, b_r_n, b_m_s, b_c_s, b_c_v, if_true, if_false]
          | true => rw [hx, hy, hz] at hbad; cases hbad
  cases hx : inR x nr with
  | false => exact bad (by rw [hx]; rfl)
  | true => cases hy : inR y nr with
    | false => exact bad (by rw [hy, Bool.false_and, Bool.and_false])
    | true => cases hz : inR z np with
      | false => exact bad (by rw [hz, Bool.and_false, Bool.and_false])
      | true =>
        rw [hx] at hr
        rw [hy] at hk
        rw [hz] at hpg
        obtain ⟨r, hr1, rfl⟩ := inR_nI hx
        obtain ⟨k, hk1, rfl⟩ := inR_nI hy
        obtain ⟨p, hp, rfl⟩ := inR_nI hz
        have hor := (I_ru I hr1).2.2.2
        have hok := (I_ru I hk1).2.2.2
        obtain ⟨h8, hb, h1, h24, hw, hww, hv, _⟩ := I_pg I hp
        have hgl := giv_lt (μ := μ) (r := r) (p := p) h24 (one_lt h1)
        have hc := C_dr1 I hr1 hp
        have hm := E_gn I hr1 hp
        generalize giv μ r p (bnn (A μ 20) p) 1 = G at *
        rcases nthS_sp G i with q | ⟨b, b1, b2, b3⟩
        · refine ⟨(-2), μ, μ, ?_, ?_, I_ok I⟩
          · simp (disch := first | omega | decide | with_reducible assumption) only [D91, i91_0, i91_1, i91_2, i91_5, i91_5N, i91_7, i91_8, i91_9, i91_12, i91_12N, i91_14, i91_15, i91_16, i91_19, i91_19N, i91_21, i91_21N, i91_23, i91_23N, i91_26, i91_26N, i91_28, i91_28N, i91_31, i91_31N, i91_33, i91_33N, i91_36, i91_38, i91_39, i91_39N, i91_41, i91_41N, i91_43, i91_44, i91_47, i91_49, i91_52, i91_54, i91_56, i91_57, i91_60, i91_62, i91_65, i91_65N, i91_67, i91_67N, i91_69, i91_71, i91_74, C_ruleAt I hr1, C_ruleAt I hk1, C_pageAt I hp, hc, C_nth, q, b_v_s, b_i_s, b_n_s, b_r_s, b_r_n, b_m_s, b_c_s, b_c_v, if_true]
          · simp (disch := first | omega | decide | with_reducible assumption) only [D164, i164_0, i164_1, i164_2, i164_5, i164_8, i164_9, i164_10, i164_13, i164_16, i164_17, i164_18, i164_21, i164_24, i164_26, i164_27, i164_28, i164_29, i164_30, i164_33, i164_35, i164_38, i164_40, i164_42, i164_43, i164_46, i164_48, i164_51, i164_52, i164_53, i164_54, i164_56, i164_59, hr, hk, hpg, bI_0, Bool.true_eq_false, hm, E_nthM, q, b_v_s, b_i_s, b_n_s, b_r_s, b_r_n, b_m_s, b_c_s, b_c_v, if_true, if_false]
        · have hbn := hgl b b2
          have fw1 := C_firstWord I hk1 hp hbn
          have fw2 := E_firstWord I hk1 hp hbn
          refine ⟨(fwd μ k p b), μ, μ, ?_, ?_, I_ok I⟩
          · simp (disch := first | omega | decide | with_reducible assumption) only [D91, i91_0, i91_1, i91_2, i91_5, i91_5N, i91_7, i91_8, i91_9, i91_12, i91_12N, i91_14, i91_15, i91_16, i91_19, i91_19N, i91_21, i91_21N, i91_23, i91_23N, i91_26, i91_26N, i91_28, i91_28N, i91_31, i91_31N, i91_33, i91_33N, i91_36, i91_38, i91_39, i91_39N, i91_41, i91_41N, i91_43, i91_44, i91_47, i91_49, i91_52, i91_54, i91_56, i91_57, i91_60, i91_62, i91_65, i91_65N, i91_67, i91_67N, i91_69, i91_71, i91_74, C_ruleAt I hr1, C_ruleAt I hk1, C_pageAt I hp, hc, C_nth, b3, nI_ne1, fw1, b_v_s, b_i_s, b_n_s, b_r_s, b_r_n, b_m_s, b_c_s, b_c_v, if_false]
          · simp (disch := first | omega | decide | with_reducible assumption) only [D164, i164_0, i164_1, i164_2, i164_5, i164_8, i164_9, i164_10, i164_13, i164_16, i164_17, i164_18, i164_21, i164_24, i164_26, i164_27, i164_28, i164_29, i164_30, i164_33, i164_35, i164_38, i164_40, i164_42, i164_43, i164_46, i164_48, i164_51, i164_52, i164_53, i164_54, i164_56, i164_59, hr, hk, hpg, bI_0, Bool.true_eq_false, hm, E_nthM, b3, nI_ne1, fw2, b_v_s, b_i_s, b_n_s, b_r_s, b_r_n, b_m_s, b_c_s, b_c_v, if_false]
end calls2
