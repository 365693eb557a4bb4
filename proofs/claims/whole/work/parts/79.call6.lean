/-! what fits: both answer alike -/
theorem lsF_none (fit : Nat → Bool) (n : Nat) : lsF fit n = none ↔ cnt fit n = 0 := by
  induction n with
  | zero => exact ⟨fun _ => rfl, fun _ => rfl⟩
  | succ n ih =>
    rw [lsF_st, cnt_st]
    by_cases q : fit n = true
    · rw [if_pos q]
      by_cases r : cnt fit n = 0
      · rw [if_pos ⟨q, r⟩]; exact ⟨fun e => (by cases e), fun e => (by omega)⟩
      · rw [if_neg (fun w => r w.2), ih]; exact ⟨fun e => absurd e r, fun e => (by omega)⟩
    · rw [if_neg (fun w => q w.1), if_neg q, ih, Nat.add_zero]
theorem lkF_none (fit : Nat → Bool) (EV : Nat → Nat) (n : Nat) : lkF fit EV n = none ↔ cnt fit n = 0 := by
  induction n with
  | zero => exact ⟨fun _ => rfl, fun _ => rfl⟩
  | succ n ih =>
    rw [lkF_st, cnt_st]
    by_cases q : fit n = true
    · rw [if_pos q, if_pos q]
      refine ⟨fun e => ?_, fun e => by omega⟩
      cases h : lkF fit EV n with
      | none => rw [h] at e; cases e
      | some c =>
        rw [h] at e
        dsimp only at e
        split at e <;> cases e
    · rw [if_neg q, if_neg q, ih, Nat.add_zero]
theorem lsF_lt {fit : Nat → Bool} {n c : Nat} (h : lsF fit n = some c) : c < n := by
  rw [fst_ls] at h
  have := (fst_some _ _ _ h).2.1
  omega
theorem lkF_lt {fit : Nat → Bool} {EV : Nat → Nat} {n c : Nat} (h : lkF fit EV n = some c) : c < n := by
  have := lkF_mx fit EV n
  rw [h] at this
  exact this.2.1
theorem akB_val {may : Nat → Bool} {mo : Nat → Nat} {base n : Nat} {st : Option (Nat × Nat)} {R : Nat × Nat → Prop} (h0 : ∀ q, st = some q → R q) (h : ∀ b, b < n → R (base + b, mo b)) : ∀ q, akB may mo base st n = some q → R q := by
  induction n with
  | zero => exact h0
  | succ n ih =>
    intro q
    rw [akB_st]
    have ih' := ih (fun b hb => h b (by omega))
    cases e : akB may mo base st n with
    | none =>
      dsimp only
      split
      · intro z; injection z with z; rw [← z]; exact h n (by omega)
      · intro z; cases z
    | some r =>
      dsimp only
      split
      · intro z; injection z with z; rw [← z]; exact h n (by omega)
      · intro z; injection z with z; rw [← z]; exact ih' r e
theorem akP_val {may : Nat → Nat → Bool} {mo : Nat → Nat → Nat} {bn : Nat → Nat} {np : Nat} (hb : ∀ p, p < np → bn p ≤ 24) : ∀ q, akP may mo bn np = some q → q.2 = mo (q.1 / 24) (q.1 % 24) ∧ q.1 < 24 * np := by
  induction np with
  | zero => intro q e; cases e
  | succ np ih =>
    intro q e
    rw [akP] at e
    have hb' := hb np (by omega)
    refine akB_val (R := fun q => q.2 = mo (q.1 / 24) (q.1 % 24) ∧ q.1 < 24 * (np + 1)) (fun q e => ?_) (fun b hbn => ?_) q e
    · have := ih (fun p hp => hb p (by omega)) q e
      exact ⟨this.1, by omega⟩
    · dsimp only
      rw [show (24 * np + b) / 24 = np by omega, show (24 * np + b) % 24 = b by omega]
      exact ⟨rfl, by omega⟩
section calls6
variable {C : Nat × (Nat → Int32)} {μ : mM} {np nr nl ns : Nat} {PA QA LA sh : Nat → Nat}
theorem EVs_moE {x : Nat} (hx : FT μ np x = true) : EVs μ np x = moE (cvE (A μ 20) (A μ 23) (A μ 21) (A μ 24) (A μ 25) x) np := by
  unfold EVs evx
  rw [if_pos hx, moE_evn]
  congr 1
  funext p
  unfold cvv cvE
  rw [hx, Bool.and_true]
/-- the class works out what fits, if it must -/
theorem C_refresh (I : INV C μ np nr nl ns PA QA LA sh) : ∃ ν, m_D 78 [.ref 0] μ = some (none, ν) ∧ INV C ν np nr nl ns PA QA LA sh ∧ FOK ν np ∧ Kp μ ν := by
  have hC := I_C I
  rcases I.2.2.2.2.2.2.2.2.1 with h0 | ⟨h1, hF⟩
  · have hoF := FV_oc I.2.1.2.2.2.1
    have c3 : FI μ 0 3 = nI np := I.2.2.1.2.2.2.1
    have hA := I_A I
    obtain ⟨ν1, e1, k1, V1, S1, a1⟩ := C_workOut (EV := EVs μ np) (I_V I) hA I.2.1.2.2.2.1 (fun x _ hx => EVs_moE hx) (EVs_le (I_np I))
    have hC1 := CV_K hC k1
    have cs1 : K [] [(0, 11)] ν1 (wO ν1 0 11 (.int (bI true))) := K_wO (k := 11) (CV_o hC1) rfl _ (by simp)
    have cp1 := pOb (k := 11) (CV_o hC1) rfl true
    have cr1 := wO_FIo (k := 11) (CV_o hC1) rfl (bI true)
    have cu1 := wO_A (CV_o hC1) 11 (.int (bI true))
    generalize wO ν1 0 11 (.int (bI true)) = cm1 at cs1 cp1 cr1 cu1
    rw [bI_t] at cp1 cr1
    have cV1 := CV_K hC1 cs1
    have nX : ∀ a, a < 48 → a ≠ 12 → a ≠ 13 → A cm1 a = A μ a := fun a h1 h2 h3 => by
      rw [cu1, K_A k1 (XW_no h2 h3 (fun p hp e => by have := (hA p hp).1; omega))]
    have kk : K (XW PA np) ((0, 11) :: YW PA np) μ cm1 := (k1.mono (fun _ q => q) (fun y q => List.mem_cons_of_mem _ q)).tr (cs1.mono (by simp) (by simp))
    have hFOK : FOK cm1 np := by
      obtain ⟨f1, f2, f3⟩ := Kp_FT (μ := μ) (ν := cm1) ⟨nX 20 (by decide) (by decide) (by decide), nX 21 (by decide) (by decide) (by decide), nX 22 (by decide) (by decide) (by decide), nX 23 (by decide) (by decide) (by decide), nX 24 (by decide) (by decide) (by decide), nX 25 (by decide) (by decide) (by decide)⟩ np
      unfold FOK FS
      rw [f1, f2, f3, nX 20 (by decide) (by decide) (by decide), nX 21 (by decide) (by decide) (by decide), nX 23 (by decide) (by decide) (by decide)]
      obtain ⟨b0, b1, b2, b3, b4⟩ := S1
      exact ⟨⟨by rw [cr1, if_neg (by decide)]; exact b0, by rw [cr1, if_neg (by decide)]; exact b1, by rw [cr1, if_neg (by decide)]; exact b2, by rw [cr1, if_neg (by decide)]; exact b3, fun p hp b hb => by rw [cu1]; exact b4 p hp b hb⟩, by rw [cr1, if_neg (by decide)]; exact a1⟩
    refine ⟨cm1, ?_, INV_K3 I kk (fun a ha => ?_) (fun y hy => ?_) ?_ (Or.inr ⟨by rw [cr1, if_pos ⟨rfl, rfl⟩], hFOK⟩) (by unfold Zr; rw [nX 24 (by decide) (by decide) (by decide), nX 25 (by decide) (by decide) (by decide)]; exact I.2.2.2.2.2.2.2.2.2.2.1.2.2.2), hFOK, ⟨nX 20 (by decide) (by decide) (by decide), nX 21 (by decide) (by decide) (by decide), nX 22 (by decide) (by decide) (by decide), nX 23 (by decide) (by decide) (by decide), nX 24 (by decide) (by decide) (by decide), nX 25 (by decide) (by decide) (by decide)⟩⟩
    · simp (disch := first | omega | decide | with_reducible assumption) only [D78, i78_0, i78_1, i78_4, i78_7, i78_8, i78_11, i78_12, i78_15, i78_16, i78_19, i78_22, i78_23, i78_24, i78_27, gC11 hC, gC10 hC, gC2 hC, gC3 hC, h0, c3, e1, cp1, b_v_s, b_i_s, b_n_s, b_r_s, b_r_n, b_m_s, b_c_s, b_c_v, if_true]
    · unfold XW at ha
      simp only [List.mem_cons, List.mem_map, List.mem_range] at ha
      rcases ha with z | z | ⟨p, p1, p2⟩
      · exact Or.inr (Or.inl z)
      · exact Or.inl (by rw [z]; decide)
      · exact Or.inr (Or.inr (Or.inr (Or.inr ⟨p, p1, p2.symm⟩)))
    · unfold YW at hy
      simp only [List.mem_cons, List.mem_map, List.mem_range] at hy
      rcases hy with z | z | z | z | z | z | ⟨p, p1, p2⟩
      · exact Or.inr (Or.inr (Or.inl z))
      · exact Or.inr (Or.inl (by rw [z]))
      · exact Or.inr (Or.inl (by rw [z]))
      · exact Or.inr (Or.inl (by rw [z]))
      · exact Or.inr (Or.inl (by rw [z]))
      · exact Or.inr (Or.inl (by rw [z]))
      · exact Or.inr (Or.inr (Or.inr ⟨p, p1, by rw [← p2], by rw [← p2]; exact Nat.le_of_ble_eq_true rfl⟩))
    · rw [nX 20 (by decide) (by decide) (by decide), nX 21 (by decide) (by decide) (by decide), nX 22 (by decide) (by decide) (by decide), nX 23 (by decide) (by decide) (by decide), nX 24 (by decide) (by decide) (by decide), nX 25 (by decide) (by decide) (by decide)]
      exact PGV_K V1 hA cs1 (by simp) (by simp)
  · refine ⟨μ, ?_, I, hF, ⟨rfl, rfl, rfl, rfl, rfl, rfl⟩⟩
    simp (disch := first | omega | decide | with_reducible assumption) only [D78, i78_0, i78_1, i78_4, i78_7, i78_8, i78_11, i78_12, i78_15, i78_16, i78_19, i78_22, i78_23, i78_24, i78_27, gC11 hC, h1, ne10, b_v_s, b_i_s, b_n_s, b_r_s, b_r_n, b_m_s, b_c_s, b_c_v, if_false]
theorem E_cho (I : INV C μ np nr nl ns PA QA LA sh) (w : Bool) : ∃ ν, m_D 142 [.ref 19, .int (bI w)] μ = some (some (.int (cI (if w = true then lkF (FT μ np) (EVs μ np) 3615 else lsF (FT μ np) 3615))), ν) ∧ SC [34, 35, 36, 37] [23] μ ν ∧ FI ν 19 23 = nI (cnt (FT μ np) 3615) ∧ (w = true → ∀ x, x < 3615 → A ν 36 x = nI (EVs μ np x)) := by
  obtain ⟨ν, e, s, f, g⟩ := E_chosen w (I_M I) I.2.2.1.1 I.2.2.2.2.1
  refine ⟨ν, ?_, s, f, g⟩
  rw [e]
  obtain ⟨h1, h2⟩ := chs_eq (FT μ np) (EVs μ np) 3615
  cases w with
  | true => rw [h2, if_pos rfl]
  | false => rw [h1, if_neg (by decide)]
theorem nI0np (I : INV C μ np nr nl ns PA QA LA sh) : (nI np = 0) = (np = 0) := nI_is0 (by have := I_np I; omega)
set_option maxHeartbeats 2000000 in
theorem call_fits (x : Int32) : CallOK C 77 143 [.int x] := by
  rintro μ ⟨np, nr, nl, ns, PA, QA, LA, sh, I⟩
  have hC := I_C I
  have hoC := CV_oc hC
  have hM := I_M I
  have c3 : FI μ 0 3 = nI np := I.2.2.1.2.2.2.1
  have m0 : FI μ 19 0 = nI np := I.2.2.1.1
  have z0 := nI0np I
  have i3 : ∀ ν : mM, m_D 102 [.long x.toInt64, .long 0, .long 3] ν = some (some (.int (bI (inR x 4))), ν) := fun ν => in_R (k := 3) (by decide)
  cases hx : inR x 4 with
  | false =>
    rw [hx] at i3
    refine ⟨(-102), μ, μ, ?_, ?_, I_ok I⟩
    · by_cases d1 : x < 0
      · simp (disch := first | omega | decide | with_reducible assumption) only [D77, i77_0, i77_1, i77_4, i77_5, i77_6, i77_9, i77_11, d1, if_true]
      · have d2 : (3 : Int32) < x := by
          unfold inR at hx
          rw [decide_eq_false_iff_not] at hx
          rw [Int32.lt_iff_toInt_lt, show (0 : Int32).toInt = 0 by decide] at d1
          rw [Int32.lt_iff_toInt_lt, show (3 : Int32).toInt = 3 by decide]
          omega
        simp (disch := first | omega | decide | with_reducible assumption) only [D77, i77_0, i77_1, i77_4, i77_5, i77_6, i77_9, i77_11, d1, d2, if_true, if_false]
    · simp (disch := first | omega | decide | with_reducible assumption) only [D143, i143_0, i143_1, i143_2, i143_3, i143_6, i143_9, i143_12, i143_14, i3 μ, bI_0, b_v_s, b_i_s, b_n_s, b_r_s, b_r_n, b_m_s, b_c_s, b_c_v, if_true]
  | true =>
    rw [hx] at i3
    obtain ⟨t, ht, rfl⟩ := inR_nI hx
    have go1 : ∀ ν, m_D 77 [.ref 0, .int (nI t)] ν = m_G 77 12 [.ref 0, .int (nI t)] [] ν := fun ν => by
      simp (disch := first | omega | decide | with_reducible assumption) only [D77, i77_0, i77_1, i77_4, i77_5, i77_6, n3c, nI_lt0, lt_f, if_false]
    have go2 : ∀ ν, m_D 143 [.ref 19, .int (nI t)] ν = m_G 143 15 [.ref 19, .int (nI t), m_d] [] ν := fun ν => by
      simp (disch := first | omega | decide | with_reducible assumption) only [D143, i143_0, i143_1, i143_2, i143_3, i143_6, i143_9, i3 ν, bI_0, Bool.true_eq_false, b_v_s, b_i_s, b_n_s, b_r_s, b_r_n, b_m_s, b_c_s, b_c_v, if_false]
    by_cases hnp : np = 0
    · refine ⟨(-103), μ, μ, ?_, ?_, I_ok I⟩
      · rw [go1]
        simp (disch := first | omega | decide | with_reducible assumption) only [i77_12, i77_13, i77_16, i77_19, i77_21, gC3 hC, c3, z0, hnp, nI00, b_v_s, b_i_s, b_n_s, b_r_s, b_r_n, b_m_s, b_c_s, b_c_v, if_true]
      · rw [go2]
        simp (disch := first | omega | decide | with_reducible assumption) only [i143_15, i143_16, i143_19, i143_22, i143_24, gM0 hM, m0, z0, hnp, nI00, b_v_s, b_i_s, b_n_s, b_r_s, b_r_n, b_m_s, b_c_s, b_c_v, if_true]
    · obtain ⟨ν, e, J, ⟨⟨b0, b1, b2, b3, _⟩, _⟩, _⟩ := C_refresh I
      have hCν := I_C J
      have hFν := J.2.1.2.2.2.1
      have hMν := I_M J
      have hoν := oM_oc hMν
      have m0ν : FI ν 19 0 = nI np := J.2.2.1.1
      have hcl := cnt_le (FT ν np) 3615
      have cls : m_D 77 [.ref 0, .int (nI t)] μ = m_G 77 26 [.ref 0, .int (nI t)] [] ν := by
        rw [go1]
        simp (disch := first | omega | decide | with_reducible assumption) only [i77_12, i77_13, i77_16, i77_19, i77_21, i77_22, i77_23, gC3 hC, c3, z0, hnp, e, b_v_s, b_i_s, b_n_s, b_r_s, b_r_n, b_m_s, b_c_s, b_c_v, if_false]
      obtain ⟨ξ, e2, s2, f2, g2⟩ := E_cho J (decide (1 < t))
      have hMξ := s2.1
      have J2 := INV_SC J s2 (by decide) (by decide)
      have mdl : m_D 143 [.ref 19, .int (nI t)] ν = m_G 143 40 [.ref 19, .int (nI t), .int (cI (if decide (1 < t) = true then lkF (FT ν np) (EVs ν np) 3615 else lsF (FT ν np) 3615))] [] ξ := by
        rw [go2]
        by_cases c : 1 < t
        · rw [decide_eq_true c, bI_t] at e2
          rw [decide_eq_true c]
          simp (disch := first | omega | decide | with_reducible assumption) only [i143_15, i143_16, i143_19, i143_22, i143_24, i143_25, i143_26, i143_27, i143_28, gM0 hMν, m0ν, z0, hnp, n1, lt_t, b_v_s, b_i_s, b_n_s, b_r_s, b_r_n, b_m_s, b_c_s, b_c_v, if_true, if_false]
          simp (disch := first | omega | decide | with_reducible assumption) only [i143_31, i143_32, i143_35, i143_36, i143_39, e2, b_v_s, b_i_s, b_n_s, b_r_s, b_r_n, b_m_s, b_c_s, b_c_v, if_true]
        · rw [decide_eq_false c, bI_f] at e2
          rw [decide_eq_false c]
          simp (disch := first | omega | decide | with_reducible assumption) only [i143_15, i143_16, i143_19, i143_22, i143_24, i143_25, i143_26, i143_27, i143_28, gM0 hMν, m0ν, z0, hnp, n1, lt_f, b_v_s, b_i_s, b_n_s, b_r_s, b_r_n, b_m_s, b_c_s, b_c_v, if_false]
          simp (disch := first | omega | decide | with_reducible assumption) only [i143_35, i143_36, i143_39, e2, b_v_s, b_i_s, b_n_s, b_r_s, b_r_n, b_m_s, b_c_s, b_c_v]
      generalize FT ν np = fit at *
      generalize EVs ν np = EV at *
      have hN := lsF_none fit 3615
      have hN2 := lkF_none fit EV 3615
      have hls : ∀ c, lsF fit 3615 = some c → c < 3615 := fun c h => lsF_lt h
      have hlk : ∀ c, lkF fit EV 3615 = some c → c < 3615 := fun c h => lkF_lt h
      generalize cnt fit 3615 = N at *
      generalize lsF fit 3615 = LS at *
      generalize lkF fit EV 3615 = LK at *
      by_cases t0 : t = 0
      · subst t0
        refine ⟨(nI N), ν, ξ, ?_, ?_, I_ok J2⟩
        · rw [cls]
          simp (disch := first | omega | decide | with_reducible assumption) only [i77_26, i77_27, i77_30, i77_31, i77_34, i77_37, nI00, gC10 hCν, gF0 hFν, b0, b_v_s, b_i_s, b_n_s, b_r_s, b_r_n, b_m_s, b_c_s, b_c_v, if_true]
        · rw [mdl]
          simp (disch := first | omega | decide | with_reducible assumption) only [i143_40, i143_41, i143_44, i143_45, i143_48, nI00, gM23 hMξ, f2, b_v_s, b_i_s, b_n_s, b_r_s, b_r_n, b_m_s, b_c_s, b_c_v, if_true]
      · have zt : (nI t = 0) = False := by rw [nI_is0 (by omega)]; exact eq_false t0
        by_cases hN0 : N = 0
        · have e1 : LS = none := hN.mpr hN0
          have e3 : LK = none := hN2.mpr hN0
          refine ⟨(-1), ν, ξ, ?_, ?_, I_ok J2⟩
          · rw [cls]
            simp (disch := first | omega | decide | with_reducible assumption) only [i77_26, i77_27, i77_30, i77_31, i77_34, i77_37, i77_38, i77_39, i77_42, i77_45, i77_48, i77_49, zt, gC10 hCν, gF0 hFν, b0, hN0, nI00, b_v_s, b_i_s, b_n_s, b_r_s, b_r_n, b_m_s, b_c_s, b_c_v, if_true, if_false]
          · rw [mdl, e1, e3, ite_self]
            simp (disch := first | omega | decide | with_reducible assumption) only [i143_40, i143_41, i143_44, i143_45, i143_48, i143_49, i143_50, i143_51, i143_54, i143_55, i143_58, i143_59, i143_60, i143_63, i143_64, i143_67, i143_68, i143_69, i143_72, i143_73, i143_76, zt, cI_n1, b_v_s, b_i_s, b_n_s, b_r_s, b_r_n, b_m_s, b_c_s, b_c_v, if_true, if_false]
        · have zN : (nI N = 0) = False := by rw [nI_is0 (by omega)]; exact eq_false hN0
          obtain ⟨a, ha⟩ : ∃ a, LS = some a := by
            cases h : LS with
            | none => exact absurd (hN.mp h) hN0
            | some a => exact ⟨a, rfl⟩
          obtain ⟨k, hk⟩ : ∃ a, LK = some a := by
            cases h : LK with
            | none => exact absurd (hN2.mp h) hN0
            | some a => exact ⟨a, rfl⟩
          have ha2 := hls a ha
          have hk2 := hlk k hk
          rw [ha, cI_s] at b1
          rw [hk, cI_s] at b2
          rw [hk, evI] at b3
          rw [ha, hk] at mdl
          have cls2 : m_G 77 26 [.ref 0, .int (nI t)] [] ν = m_G 77 51 [.ref 0, .int (nI t)] [.int (nI t)] ν := by
            simp (disch := first | omega | decide | with_reducible assumption) only [i77_26, i77_27, i77_30, i77_31, i77_34, i77_37, i77_38, i77_39, i77_42, i77_45, i77_48, i77_49, i77_50, zt, zN, gC10 hCν, gF0 hFν, b0, b_v_s, b_i_s, b_n_s, b_r_s, b_r_n, b_m_s, b_c_s, b_c_v, if_false]
          rw [cls2] at cls
          rcases (show t = 1 ∨ t = 2 ∨ t = 3 by omega) with rfl | rfl | rfl
          · refine ⟨(nI (stps a)), ν, ξ, ?_, ?_, I_ok J2⟩
            · rw [cls, show nI 1 = 1 from rfl]
              simp (disch := first | omega | decide | with_reducible assumption) only [i77_51_1, i77_76, i77_77, i77_80, i77_83, i77_86, gC10 hCν, gF1 hFν, b1, C_lengthOf, b_v_s, b_i_s, b_n_s, b_r_s, b_r_n, b_m_s, b_c_s, b_c_v]
            · rw [mdl, if_neg (by decide), cI_s]
              have z3 : (nI 1 = 3) = False := eq_false (by decide)
              simp (disch := first | omega | decide | with_reducible assumption) only [i143_40, i143_41, i143_44, i143_45, i143_48, i143_49, i143_50, i143_51, i143_54, i143_55, i143_58, i143_59, i143_60, i143_63, i143_64, i143_67, i143_68, i143_69, i143_72, i143_73, i143_76, zt, nI_ne1, z3, E_stepsOf, b_v_s, b_i_s, b_n_s, b_r_s, b_r_n, b_m_s, b_c_s, b_c_v, if_true, if_false]
          · refine ⟨(nI (stps k)), ν, ξ, ?_, ?_, I_ok J2⟩
            · rw [cls, show nI 2 = 2 from rfl]
              simp (disch := first | omega | decide | with_reducible assumption) only [i77_51_2, i77_87, i77_88, i77_91, i77_94, i77_97, gC10 hCν, gF2 hFν, b2, C_lengthOf, b_v_s, b_i_s, b_n_s, b_r_s, b_r_n, b_m_s, b_c_s, b_c_v]
            · rw [mdl, if_pos (by decide), cI_s]
              have z3 : (nI 2 = 3) = False := eq_false (by decide)
              simp (disch := first | omega | decide | with_reducible assumption) only [i143_40, i143_41, i143_44, i143_45, i143_48, i143_49, i143_50, i143_51, i143_54, i143_55, i143_58, i143_59, i143_60, i143_63, i143_64, i143_67, i143_68, i143_69, i143_72, i143_73, i143_76, zt, nI_ne1, z3, E_stepsOf, b_v_s, b_i_s, b_n_s, b_r_s, b_r_n, b_m_s, b_c_s, b_c_v, if_true, if_false]
          · refine ⟨(nI (EV k)), ν, ξ, ?_, ?_, I_ok J2⟩
            · rw [cls]
              rw [i77_51_d]
              · simp (disch := first | omega | decide | with_reducible assumption) only [i77_98, i77_99, i77_102, i77_105, gC10 hCν, gF3 hFν, b3, b_v_s, b_i_s, b_n_s, b_r_s, b_r_n, b_m_s, b_c_s, b_c_v]
              all_goals decide
            · rw [mdl, if_pos (by decide), cI_s]
              have z3 : (nI 3 = 3) = True := eq_true rfl
              have g36 := ga_A (k := k) (aM36 hMξ) hk2 (by decide)
              rw [g2 (by decide) k hk2] at g36
              simp (disch := first | omega | decide | with_reducible assumption) only [i143_40, i143_41, i143_44, i143_45, i143_48, i143_49, i143_50, i143_51, i143_54, i143_55, i143_58, i143_59, i143_60, i143_63, i143_64, i143_67, i143_68, i143_69, i143_72, i143_73, i143_76, zt, nI_ne1, z3, gM24 hMξ, g36, b_v_s, b_i_s, b_n_s, b_r_s, b_r_n, b_m_s, b_c_s, b_c_v, if_true, if_false]
end calls6
