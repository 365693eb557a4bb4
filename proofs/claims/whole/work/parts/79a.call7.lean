/-! steps of the chosen, how many lead, the box to ask for -/
section calls7
variable {C : Nat × (Nat → Int32)} {μ : mM} {np nr nl ns : Nat} {PA QA LA sh : Nat → Nat}
set_option maxHeartbeats 2000000 in
theorem call_step (x y : Int32) : CallOK C 79 144 [.int x, .int y] := by
  rintro μ ⟨np, nr, nl, ns, PA, QA, LA, sh, I⟩
  have hC := I_C I
  have hoC := CV_oc hC
  have hM := I_M I
  have c3 : FI μ 0 3 = nI np := I.2.2.1.2.2.2.1
  have m0 : FI μ 19 0 = nI np := I.2.2.1.1
  have z0 := nI0np I
  have i1 : ∀ ν : mM, m_D 102 [.long x.toInt64, .long 0, .long 1] ν = some (some (.int (bI (inR x 2))), ν) := fun ν => in_R (k := 1) (by decide)
  have i2 : ∀ ν : mM, m_D 102 [.long y.toInt64, .long 0, .long 2] ν = some (some (.int (bI (inR y 3))), ν) := fun ν => in_R (k := 2) (by decide)
  have out : ∀ (z : Int32) (k : Nat), k < 100 → inR z (k + 1) = false → ¬ z < 0 → nI k < z := fun z k hk h h0 => by
    unfold inR at h
    rw [decide_eq_false_iff_not] at h
    rw [Int32.lt_iff_toInt_lt, show (0 : Int32).toInt = 0 by decide] at h0
    rw [Int32.lt_iff_toInt_lt, nI_toInt (by omega)]
    omega
  cases hx : inR x 2 with
  | false =>
    rw [hx] at i1
    refine ⟨(-102), μ, μ, ?_, ?_, I_ok I⟩
    · by_cases d1 : x < 0
      · simp (disch := first | omega | decide | with_reducible assumption) only [D79, i79_0, i79_1, i79_4, i79_5, i79_6, i79_9, i79_10, i79_13, i79_14, i79_15, i79_18, i79_20, d1, if_true]
      · have d2 : (1 : Int32) < x := out x 1 (by decide) hx d1
        simp (disch := first | omega | decide | with_reducible assumption) only [D79, i79_0, i79_1, i79_4, i79_5, i79_6, i79_9, i79_10, i79_13, i79_14, i79_15, i79_18, i79_20, d1, d2, if_true, if_false]
    · simp (disch := first | omega | decide | with_reducible assumption) only [D144, i144_0, i144_1, i144_2, i144_3, i144_4, i144_7, i144_10, i144_11, i144_12, i144_13, i144_16, i144_19, i144_22, i144_24, i1 μ, bI_0, b_v_s, b_i_s, b_n_s, b_r_s, b_r_n, b_m_s, b_c_s, b_c_v, if_true]
  | true =>
    rw [hx] at i1
    obtain ⟨t, ht, rfl⟩ := inR_nI hx
    have d1 : ¬ nI t < 0 := by rw [nI_lt0 (by omega)]; exact fun z => z
    have d2 : ¬ (1 : Int32) < nI t := by rw [n1, nI_ltE (by decide) (by omega)]; omega
    cases hy : inR y 3 with
    | false =>
      rw [hy] at i2
      refine ⟨(-102), μ, μ, ?_, ?_, I_ok I⟩
      · by_cases d3 : y < 0
        · simp (disch := first | omega | decide | with_reducible assumption) only [D79, i79_0, i79_1, i79_4, i79_5, i79_6, i79_9, i79_10, i79_13, i79_14, i79_15, i79_18, i79_20, d1, d2, d3, if_true, if_false]
        · have d4 : (2 : Int32) < y := out y 2 (by decide) hy d3
          simp (disch := first | omega | decide | with_reducible assumption) only [D79, i79_0, i79_1, i79_4, i79_5, i79_6, i79_9, i79_10, i79_13, i79_14, i79_15, i79_18, i79_20, d1, d2, d3, d4, if_true, if_false]
      · simp (disch := first | omega | decide | with_reducible assumption) only [D144, i144_0, i144_1, i144_2, i144_3, i144_4, i144_7, i144_10, i144_11, i144_12, i144_13, i144_16, i144_19, i144_22, i144_24, i1 μ, i2 μ, bI_0, Bool.true_eq_false, b_v_s, b_i_s, b_n_s, b_r_s, b_r_n, b_m_s, b_c_s, b_c_v, if_true, if_false]
    | true =>
      rw [hy] at i2
      obtain ⟨j, hj, rfl⟩ := inR_nI hy
      have d3 : ¬ nI j < 0 := by rw [nI_lt0 (by omega)]; exact fun z => z
      have d4 : ¬ (2 : Int32) < nI j := by rw [n2, nI_ltE (by decide) (by omega)]; omega
      have go1 : ∀ ν, m_D 79 [.ref 0, .int (nI t), .int (nI j)] ν = m_G 79 21 [.ref 0, .int (nI t), .int (nI j)] [] ν := fun ν => by
        simp (disch := first | omega | decide | with_reducible assumption) only [D79, i79_0, i79_1, i79_4, i79_5, i79_6, i79_9, i79_10, i79_13, i79_14, i79_15, d1, d2, d3, d4, if_false]
      have go2 : ∀ ν, m_D 144 [.ref 19, .int (nI t), .int (nI j)] ν = m_G 144 25 [.ref 19, .int (nI t), .int (nI j), m_d] [] ν := fun ν => by
        simp (disch := first | omega | decide | with_reducible assumption) only [D144, i144_0, i144_1, i144_2, i144_3, i144_4, i144_7, i144_10, i144_11, i144_12, i144_13, i144_16, i144_19, i1 ν, i2 ν, bI_0, Bool.true_eq_false, b_v_s, b_i_s, b_n_s, b_r_s, b_r_n, b_m_s, b_c_s, b_c_v, if_false]
      by_cases hnp : np = 0
      · refine ⟨(-103), μ, μ, ?_, ?_, I_ok I⟩
        · rw [go1]
          simp (disch := first | omega | decide | with_reducible assumption) only [i79_21, i79_22, i79_25, i79_28, i79_30, gC3 hC, c3, z0, hnp, nI00, b_v_s, b_i_s, b_n_s, b_r_s, b_r_n, b_m_s, b_c_s, b_c_v, if_true]
        · rw [go2]
          simp (disch := first | omega | decide | with_reducible assumption) only [i144_25, i144_26, i144_29, i144_32, i144_34, gM0 hM, m0, z0, hnp, nI00, b_v_s, b_i_s, b_n_s, b_r_s, b_r_n, b_m_s, b_c_s, b_c_v, if_true]
      · obtain ⟨ν, e, J, ⟨⟨b0, b1, b2, b3, _⟩, _⟩, _⟩ := C_refresh I
        have hCν := I_C J
        have hFν := J.2.1.2.2.2.1
        have hMν := I_M J
        have hoν := oM_oc hMν
        have m0ν : FI ν 19 0 = nI np := J.2.2.1.1
        obtain ⟨ξ, e2, s2, _, _⟩ := E_cho J (decide (t = 1))
        have J2 := INV_SC J s2 (by decide) (by decide)
        have hsel : bI (decide (t = 1)) = nI t := by
          rcases (show t = 0 ∨ t = 1 by omega) with rfl | rfl <;> rfl
        rw [hsel] at e2
        have hls : ∀ c, (if decide (t = 1) = true then lkF (FT ν np) (EVs ν np) 3615 else lsF (FT ν np) 3615) = some c → c < 3615 := fun c h => by
          split at h
          · exact lkF_lt h
          · exact lsF_lt h
        have cls : m_D 79 [.ref 0, .int (nI t), .int (nI j)] μ = m_G 79 56 [.ref 0, .int (nI t), .int (nI j)] [.int (cI (if decide (t = 1) = true then lkF (FT ν np) (EVs ν np) 3615 else lsF (FT ν np) 3615))] ν := by
          rw [go1]
          rcases (show t = 0 ∨ t = 1 by omega) with rfl | rfl
          · rw [if_neg (by decide)]
            simp (disch := first | omega | decide | with_reducible assumption) only [i79_21, i79_22, i79_25, i79_28, i79_30, i79_31, i79_32, i79_35, i79_36, i79_39, i79_40, i79_43, i79_46, gC3 hC, c3, z0, hnp, e, nI00, gC10 hCν, gF1 hFν, b1, b_v_s, b_i_s, b_n_s, b_r_s, b_r_n, b_m_s, b_c_s, b_c_v, if_true, if_false]
          · have z1 : (nI 1 = 0) = False := eq_false (by decide)
            rw [if_pos (by decide)]
            simp (disch := first | omega | decide | with_reducible assumption) only [i79_21, i79_22, i79_25, i79_28, i79_30, i79_31, i79_32, i79_35, i79_36, i79_39, i79_40, i79_43, i79_46, i79_49, i79_50, i79_53, gC3 hC, c3, z0, hnp, e, z1, gC10 hCν, gF2 hFν, b2, b_v_s, b_i_s, b_n_s, b_r_s, b_r_n, b_m_s, b_c_s, b_c_v, if_false]
        have mdl : m_D 144 [.ref 19, .int (nI t), .int (nI j)] ν = m_G 144 41 [.ref 19, .int (nI t), .int (nI j), .int (cI (if decide (t = 1) = true then lkF (FT ν np) (EVs ν np) 3615 else lsF (FT ν np) 3615))] [] ξ := by
          rw [go2]
          simp (disch := first | omega | decide | with_reducible assumption) only [i144_25, i144_26, i144_29, i144_32, i144_34, i144_35, i144_36, i144_37, i144_40, gM0 hMν, m0ν, z0, hnp, e2, b_v_s, b_i_s, b_n_s, b_r_s, b_r_n, b_m_s, b_c_s, b_c_v, if_false]
        generalize (if decide (t = 1) = true then lkF (FT ν np) (EVs ν np) 3615 else lsF (FT ν np) 3615) = O at *
        cases O with
        | none =>
          refine ⟨(-1), ν, ξ, ?_, ?_, I_ok J2⟩
          · rw [cls]
            have := C_stepOfN (μ := ν) (i := nI j)
            simp (disch := first | omega | decide | with_reducible assumption) only [i79_56, i79_57, i79_60, cI, this, b_v_s, b_i_s, b_n_s, b_r_s, b_r_n, b_m_s, b_c_s, b_c_v]
          · rw [mdl]
            simp (disch := first | omega | decide | with_reducible assumption) only [i144_41, i144_42, i144_43, i144_46, i144_47, i144_50, i144_51, i144_52, i144_55, cI_n1, b_v_s, b_i_s, b_n_s, b_r_s, b_r_n, b_m_s, b_c_s, b_c_v, if_true]
        | some c =>
          have hc := hls c rfl
          refine ⟨(if j < stps c then nI (stO c j) else -1), ν, ξ, ?_, ?_, I_ok J2⟩
          · rw [cls]
            have := C_stepOf (μ := ν) (x := c) (j := j) hc hj
            simp (disch := first | omega | decide | with_reducible assumption) only [i79_56, i79_57, i79_60, cI_s, this, b_v_s, b_i_s, b_n_s, b_r_s, b_r_n, b_m_s, b_c_s, b_c_v]
          · rw [mdl]
            have := E_stepOf (μ := ξ) (x := c) (j := j) hc hj
            simp (disch := first | omega | decide | with_reducible assumption) only [i144_41, i144_42, i144_43, i144_46, i144_47, i144_50, i144_51, i144_52, i144_55, cI_s, nI_ne1, this, b_v_s, b_i_s, b_n_s, b_r_s, b_r_n, b_m_s, b_c_s, b_c_v, if_false]
theorem call_leads (x y : Int32) : CallOK C 80 146 [.int x, .int y] := by
  rintro μ ⟨np, nr, nl, ns, PA, QA, LA, sh, I⟩
  have hC := I_C I
  have hoC := CV_oc hC
  have hM := I_M I
  have hoM := oM_oc hM
  cases hx : inR x np with
  | false =>
    refine ⟨(-101), μ, μ, ?_, ?_, I_ok I⟩
    · simp (disch := first | omega | decide | with_reducible assumption) only [D80, i80_0, i80_1, i80_2, i80_5, i80_5N, i80_6, i80_6N, i80_7, i80_7N, i80_10, i80_10N, i80_11, i80_12, i80_15, i80_18, i80_20, C_pageAtN I hx, b_v_s, b_i_s, b_n_s, b_r_s, b_r_n, b_m_s, b_c_s, b_c_v]
    · simp (disch := first | omega | decide | with_reducible assumption) only [D146, i146_0, i146_1, i146_2, i146_3, i146_6, i146_9, i146_11, E_isBoxN I hx, b_v_s, b_i_s, b_n_s, b_r_s, b_r_n, b_m_s, b_c_s, b_c_v, if_true]
  | true =>
    obtain ⟨p, hp, rfl⟩ := inR_nI hx
    obtain ⟨h8, hb, h1, h24, hw, hww, hv, _⟩ := I_pg I hp
    have hoP := P_oc hv
    have hhas := C_has (x := y) hv
    have hib := E_isBox (b := y) I hp
    cases hy : inR y (bnn (A μ 20) p) with
    | false =>
      rw [hy] at hib hhas
      refine ⟨(-101), μ, μ, ?_, ?_, I_ok I⟩
      · simp (disch := first | omega | decide | with_reducible assumption) only [D80, i80_0, i80_1, i80_2, i80_5, i80_5N, i80_6, i80_6N, i80_7, i80_7N, i80_10, i80_10N, i80_11, i80_12, i80_15, i80_18, i80_20, C_pageAt I hp, hhas, bI_0, b_v_s, b_i_s, b_n_s, b_r_s, b_r_n, b_m_s, b_c_s, b_c_v, if_true]
      · simp (disch := first | omega | decide | with_reducible assumption) only [D146, i146_0, i146_1, i146_2, i146_3, i146_6, i146_9, i146_11, hib, bI_0, b_v_s, b_i_s, b_n_s, b_r_s, b_r_n, b_m_s, b_c_s, b_c_v, if_true]
    | true =>
      rw [hy] at hhas
      obtain ⟨b, hbn, rfl⟩ := inR_nI hy
      obtain ⟨ν, e, J, ⟨⟨b0, b1, b2, b3, bL⟩, _⟩, kp⟩ := C_refresh I
      have hCν := I_C J
      have hFν := J.2.1.2.2.2.1
      have hMν := I_M J
      have hoν := oM_oc hMν
      have hib2 := E_isBox (b := nI b) J hp
      rw [kp.1, hy] at hib2
      have hbL := bL p hp b (by omega)
      dsimp only at hbL
      obtain ⟨ξ, e2, s2, f2, g2⟩ := E_findFits hMν J.2.2.1.1 J.2.2.2.2.1
      have J2 := INV_SC J s2 (by decide) (by decide)
      have hMξ := s2.1
      have hoξ := oM_oc hMξ
      obtain ⟨q1, q2, q3, q4, q5, _⟩ := I_pg J2 hp
      obtain ⟨ζ, e3, s3, f3⟩ := E_countLeads (fit := FT ν np) hMξ q1 q3 q4 q2 q5 f2
      have hMζ := s3.1
      have J3 := INV_SC J2 s3 (by decide) (by decide)
      have f3b := f3 b (by omega)
      rw [SC_A s2 (by decide) (by decide), SC_A s2 (by decide) (by decide), SC_A s2 (by decide) (by decide)] at f3b
      have g12 := ga_A (k := 24 * p + b) hFν.2.1 (by omega) (by decide)
      rw [hbL] at g12
      have g38 := ga_A (k := b) (aM38 hMζ) (by omega) (by decide)
      rw [f3b] at g38
      refine ⟨(nI (cnt (fun x => FT ν np x && bt (sn (A ν 23) (A ν 21) p (bnn (A ν 20) p) x) b) 3615)), ν, ζ, ?_, ?_, I_ok J3⟩
      · simp (disch := first | omega | decide | with_reducible assumption) only [D80, i80_0, i80_1, i80_2, i80_5, i80_5N, i80_6, i80_6N, i80_7, i80_7N, i80_10, i80_10N, i80_11, i80_12, i80_15, i80_18, i80_20, i80_21, i80_22, i80_25, i80_26, i80_29, i80_32, i80_33, i80_35, i80_36, i80_37, i80_38, i80_39, C_pageAt I hp, hhas, bI_0, Bool.true_eq_false, e, gC10 hCν, gF5 hFν, k24c, g12, b_v_s, b_i_s, b_n_s, b_r_s, b_r_n, b_m_s, b_c_s, b_c_v, if_false]
      · simp (disch := first | omega | decide | with_reducible assumption) only [D146, i146_0, i146_1, i146_2, i146_3, i146_6, i146_9, i146_11, i146_12, i146_13, i146_16, i146_17, i146_18, i146_21, i146_22, i146_25, i146_26, i146_27, hib2, bI_0, Bool.true_eq_false, e2, e3, gM26 hMζ, g38, b_v_s, b_i_s, b_n_s, b_r_s, b_r_n, b_m_s, b_c_s, b_c_v, if_false]
def akL : Option (Nat × Nat) → Int32
  | none => -1
  | some q => nI q.2
theorem akI_m1 {o : Option (Nat × Nat)} (h : ∀ q, o = some q → q.1 < 2147483648) : (akI o = -1) = (o = none) := by
  cases o with
  | none => exact propext ⟨fun _ => rfl, fun _ => rfl⟩
  | some q => exact propext ⟨fun z => by rw [akI, nI_ne1 (h q rfl)] at z; exact z.elim, fun z => by cases z⟩
set_option maxHeartbeats 4000000 in
theorem E_askLoop {w : Int32} (I : INV C μ np nr nl ns PA QA LA sh) (hf : ∀ x, x < 3615 → A μ 35 x = bI (FT μ np x)) (hm : FI μ 19 23 = nI (cnt (FT μ np) 3615)) : ∃ ν v5 v6 v7 v8, m_G 147 26 [.ref 19, .int w, .int (-1), .int (-1), .int 0, m_d, m_d, m_d, m_d] [] μ = m_G 147 26 [.ref 19, .int w, .int (akI (askV μ np)), .int (akL (askV μ np)), .int (nI np), v5, v6, v7, v8] [] ν ∧ SC [34, 38] [] μ ν := by
  have hmb := cnt_le (FT μ np) 3615
  have h8 := I_np I
  have hle := ldF_le (A μ 20) (A μ 23) (A μ 21) (FT μ np)
  have hbn : ∀ p, p < np → bnn (A μ 20) p ≤ 24 := fun p hp => (I_pg I hp).2.2.2.1
  unfold askV
  have hldd : ∀ p b, cnt (fun x => FT μ np x && bt (sn (A μ 23) (A μ 21) p (bnn (A μ 20) p) x) b) 3615 = ldF (A μ 20) (A μ 23) (A μ 21) (FT μ np) p b := fun p b => rfl
  generalize cnt (FT μ np) 3615 = m at *
  generalize ldF (A μ 20) (A μ 23) (A μ 21) (FT μ np) = ld at *
  have hlt : ∀ k, k ≤ np → ∀ q, akP (mayF (A μ 24) (A μ 25) ld m) (moF ld m) (bnn (A μ 20)) k = some q → q.2 < m ∧ q.1 < 24 * k := fun k hk => akP_lt (fun p hp b hb c => may_lt c) (fun p hp => hbn p (by omega))
  obtain ⟨ν, v, e, s⟩ := loop_inv (fun p ν (v : Value × Value × Value × Value) => m_G 147 26 [.ref 19, .int w, .int (akI (akP (mayF (A μ 24) (A μ 25) ld m) (moF ld m) (bnn (A μ 20)) p)), .int (akL (akP (mayF (A μ 24) (A μ 25) ld m) (moF ld m) (bnn (A μ 20)) p)), .int (nI p), v.1, v.2.1, v.2.2.1, v.2.2.2] [] ν) (fun p ν => SC [34, 38] [] μ ν) np (fun p ν v hp s => by
    obtain ⟨v5, v6, v7, v8⟩ := v
    have J := INV_SC I s (by decide) (by decide)
    have hMν := s.1
    have hoν := oM_oc hMν
    have T : ∀ a, 20 ≤ a → a < 34 → A ν a = A μ a := fun a h1 h2 => SC_A s (by omega) (by simp; omega)
    have n0' : FI ν 19 0 = nI np := J.2.2.1.1
    obtain ⟨a1, a2, a3, a4, a5, _⟩ := I_pg I hp
    have a2' : A ν 20 p = nI (bnn (A μ 20) p) := by rw [T 20 (by decide) (by decide)]; exact a2
    obtain ⟨ξ, e1, s1, f1⟩ := E_countLeads (n := bnn (A μ 20) p) (fit := FT μ np) hMν a1 a3 a4 a2' (by rw [T 23 (by decide) (by decide)]; exact a5) (fun x hx => by rw [SC_A s (by decide) (by decide)]; exact hf x hx)
    rw [T 23 (by decide) (by decide), T 21 (by decide) (by decide)] at f1
    have hMξ := s1.1
    have t1 := s.tr s1
    have X : ∀ a, 20 ≤ a → a < 34 → A ξ a = A μ a := fun a h1 h2 => SC_A t1 (by omega) (by simp; omega)
    have x20 : A ξ 20 p = nI (bnn (A μ 20) p) := by rw [X 20 (by decide) (by decide)]; exact a2
    have x23 : FI ξ 19 23 = nI m := (t1.2.2.2.2 23 (by decide)).trans hm
    have hP := hlt p (by omega)
    have hst : akP (mayF (A μ 24) (A μ 25) ld m) (moF ld m) (bnn (A μ 20)) (p + 1) = akB (mayF (A μ 24) (A μ 25) ld m p) (moF ld m p) (24 * p) (akP (mayF (A μ 24) (A μ 25) ld m) (moF ld m) (bnn (A μ 20)) p) (bnn (A μ 20) p) := rfl
    rw [hst]
    generalize akP (mayF (A μ 24) (A μ 25) ld m) (moF ld m) (bnn (A μ 20)) p = st at hP ⊢
    obtain ⟨ρ, v', e2, rfl⟩ := loop_inv (fun b ρ (v : Value × Value × Value) => m_G 147 44 [.ref 19, .int w, .int (akI (akB (mayF (A μ 24) (A μ 25) ld m p) (moF ld m p) (24 * p) st b)), .int (akL (akB (mayF (A μ 24) (A μ 25) ld m p) (moF ld m p) (24 * p) st b)), .int (nI p), .int (nI b), v.1, v.2.1, v.2.2] [] ρ) (fun b ρ => ρ = ξ) (bnn (A μ 20) p) (fun b ρ v hb P => by
      subst P
      obtain ⟨v6, v7, v8⟩ := v
      have hlb := hle p b
      have fb := f1 b (by omega)
      rw [hldd p b] at fb
      have hq : ∀ q, akB (mayF (A μ 24) (A μ 25) ld m p) (moF ld m p) (24 * p) st b = some q → q.2 < m ∧ q.1 < 192 := akB_lt (B := 192) (fun b hb c => may_lt c) (fun q e => by have := hP q e; exact ⟨this.1, by omega⟩) (by omega)
      have go : m_G 147 44 [.ref 19, .int w, .int (akI (akB (mayF (A μ 24) (A μ 25) ld m p) (moF ld m p) (24 * p) st b)), .int (akL (akB (mayF (A μ 24) (A μ 25) ld m p) (moF ld m p) (24 * p) st b)), .int (nI p), .int (nI b), v6, v7, v8] [] ρ = m_G 147 96 [.ref 19, .int w, .int (akI (akB (mayF (A μ 24) (A μ 25) ld m p) (moF ld m p) (24 * p) st b)), .int (akL (akB (mayF (A μ 24) (A μ 25) ld m p) (moF ld m p) (24 * p) st b)), .int (nI p), .int (nI b), .int (nI (m - ld p b)), .int (nI (moF ld m p b)), v8] [] ρ := by
        rw [i147_44]
        unfold moF
        by_cases c : m - ld p b < ld p b
        · rw [if_neg (by omega)]
          simp (disch := first | omega | decide | with_reducible assumption) only [i147_46, i147_47, i147_50, i147_52, i147_53, i147_56, i147_57, i147_60, i147_61, i147_64, i147_66, i147_67, i147_68, i147_70, i147_71, i147_74, i147_76, i147_77, i147_79, i147_82, i147_83, i147_86, i147_88, i147_89, i147_92, i147_94, gM1 hMξ, ga_A (aM20 hMξ), gM26 hMξ, ga_A (aM38 hMξ), gM23 hMξ, x20, x23, fb, nI_minus, lt_t, b_v_s, b_i_s, b_n_s, b_r_s, b_r_n, b_m_s, b_c_s, b_c_v, if_true]
        · have eq : (if ld p b < m - ld p b then m - ld p b else ld p b) = m - ld p b := by split <;> omega
          rw [eq]
          simp (disch := first | omega | decide | with_reducible assumption) only [i147_46, i147_47, i147_50, i147_52, i147_53, i147_56, i147_57, i147_60, i147_61, i147_64, i147_66, i147_67, i147_68, i147_70, i147_71, i147_74, i147_76, i147_77, i147_79, i147_82, i147_83, i147_86, i147_88, i147_89, i147_92, i147_94, gM1 hMξ, ga_A (aM20 hMξ), gM26 hMξ, ga_A (aM38 hMξ), gM23 hMξ, x20, x23, fb, nI_minus, lt_t, lt_f, b_v_s, b_i_s, b_n_s, b_r_s, b_r_n, b_m_s, b_c_s, b_c_v, if_true, if_false]
      have hml : moF ld m p b ≤ m := by unfold moF; split <;> omega
      have g25 := gb_A (k := p) (aM25 hMξ) (Or.inl rfl) a1 (by decide)
      have g24 := ga_A (k := 24 * p + b) (aM24 hMξ) (by omega) (by decide)
      rw [X 25 (by decide) (by decide)] at g25
      rw [X 24 (by decide) (by decide)] at g24
      have go2 : m_G 147 96 [.ref 19, .int w, .int (akI (akB (mayF (A μ 24) (A μ 25) ld m p) (moF ld m p) (24 * p) st b)), .int (akL (akB (mayF (A μ 24) (A μ 25) ld m p) (moF ld m p) (24 * p) st b)), .int (nI p), .int (nI b), .int (nI (m - ld p b)), .int (nI (moF ld m p b)), v8] [] ρ = m_G 147 144 [.ref 19, .int w, .int (akI (akB (mayF (A μ 24) (A μ 25) ld m p) (moF ld m p) (24 * p) st b)), .int (akL (akB (mayF (A μ 24) (A μ 25) ld m p) (moF ld m p) (24 * p) st b)), .int (nI p), .int (nI b), .int (nI (m - ld p b)), .int (nI (moF ld m p b)), .int (bI (mayF (A μ 24) (A μ 25) ld m p b))] [] ρ := by
        generalize akB (mayF (A μ 24) (A μ 25) ld m p) (moF ld m p) (24 * p) st b = S'
        generalize moF ld m p b = MO
        unfold mayF
        by_cases d1 : A μ 25 p = 0
        · rw [decide_eq_true d1, Bool.true_and]
          by_cases d2 : A μ 24 (24 * p + b) = 0
          · rw [decide_eq_true d2, Bool.true_and]
            by_cases d3 : ld p b = 0
            · rw [decide_eq_false (show ¬ 0 < ld p b by omega), Bool.false_and, bI_f]
              simp (disch := first | omega | decide | with_reducible assumption) only [i147_96, i147_97, i147_100, i147_102, i147_103, i147_106, i147_107, i147_110, i147_112, i147_114, i147_115, i147_117, i147_118, i147_119, i147_122, i147_123, i147_126, i147_128, i147_129, i147_132, i147_134, i147_137, i147_138, i147_141, i147_142, gM6 hMξ, gM5 hMξ, gM26 hMξ, ga_A (aM38 hMξ), g25, k24, g24, d1, d2, fb, le_0, d3, b_v_s, b_i_s, b_n_s, b_r_s, b_r_n, b_m_s, b_c_s, b_c_v, if_true]
            · rw [decide_eq_true (show 0 < ld p b by omega), Bool.true_and]
              by_cases d4 : m - ld p b = 0
              · rw [decide_eq_false (show ¬ 0 < m - ld p b by omega), bI_f]
                simp (disch := first | omega | decide | with_reducible assumption) only [i147_96, i147_97, i147_100, i147_102, i147_103, i147_106, i147_107, i147_110, i147_112, i147_114, i147_115, i147_117, i147_118, i147_119, i147_122, i147_123, i147_126, i147_128, i147_129, i147_132, i147_134, i147_137, i147_138, i147_141, i147_142, gM6 hMξ, gM5 hMξ, gM26 hMξ, ga_A (aM38 hMξ), g25, k24, g24, d1, d2, fb, le_0, d3, d4, b_v_s, b_i_s, b_n_s, b_r_s, b_r_n, b_m_s, b_c_s, b_c_v, if_true, if_false]
              · rw [decide_eq_true (show 0 < m - ld p b by omega), bI_t]
                simp (disch := first | omega | decide | with_reducible assumption) only [i147_96, i147_97, i147_100, i147_102, i147_103, i147_106, i147_107, i147_110, i147_112, i147_114, i147_115, i147_117, i147_118, i147_119, i147_122, i147_123, i147_126, i147_128, i147_129, i147_132, i147_134, i147_137, i147_138, i147_141, i147_142, gM6 hMξ, gM5 hMξ, gM26 hMξ, ga_A (aM38 hMξ), g25, k24, g24, d1, d2, fb, le_0, d3, d4, b_v_s, b_i_s, b_n_s, b_r_s, b_r_n, b_m_s, b_c_s, b_c_v, if_true, if_false]
          · rw [decide_eq_false d2, Bool.false_and, bI_f]
            simp (disch := first | omega | decide | with_reducible assumption) only [i147_96, i147_97, i147_100, i147_102, i147_103, i147_106, i147_107, i147_110, i147_112, i147_114, i147_115, i147_117, i147_118, i147_119, i147_122, i147_123, i147_126, i147_128, i147_129, i147_132, i147_134, i147_137, i147_138, i147_141, i147_142, gM6 hMξ, gM5 hMξ, g25, k24, g24, d1, d2, b_v_s, b_i_s, b_n_s, b_r_s, b_r_n, b_m_s, b_c_s, b_c_v, if_true, if_false]
        · rw [decide_eq_false d1, Bool.false_and, bI_f]
          simp (disch := first | omega | decide | with_reducible assumption) only [i147_96, i147_97, i147_100, i147_102, i147_103, i147_106, i147_107, i147_110, i147_112, i147_114, i147_115, i147_117, i147_118, i147_119, i147_122, i147_123, i147_126, i147_128, i147_129, i147_132, i147_134, i147_137, i147_138, i147_141, i147_142, gM6 hMξ, g25, d1, b_v_s, b_i_s, b_n_s, b_r_s, b_r_n, b_m_s, b_c_s, b_c_v, if_false]
      refine ⟨ρ, (.int (nI (m - ld p b)), .int (nI (moF ld m p b)), .int (bI (mayF (A μ 24) (A μ 25) ld m p b))), ?_, rfl⟩
      try dsimp only
      rw [go, go2, akB_st]
      generalize akB (mayF (A μ 24) (A μ 25) ld m p) (moF ld m p) (24 * p) st b = S at hq ⊢
      cases hmay : mayF (A μ 24) (A μ 25) ld m p b with
      | false =>
        cases S <;> (dsimp only; simp (disch := first | omega | decide | with_reducible assumption) only [i147_144, i147_146, i147_149, i147_150, i147_151, i147_154, i147_156, i147_157, i147_160, i147_162, i147_164, i147_165, i147_167, i147_168, i147_169, i147_171, i147_172, i147_175, bI_0, Bool.false_eq_true, false_and, if_true, if_false, nI_add1])
      | true =>
        cases S with
        | none =>
          dsimp only
          rw [if_pos rfl]
          have z : (akI none = -1) = True := eq_true rfl
          simp (disch := first | omega | decide | with_reducible assumption) only [i147_144, i147_146, i147_149, i147_150, i147_151, i147_154, i147_156, i147_157, i147_160, i147_162, i147_164, i147_165, i147_167, i147_168, i147_169, i147_171, i147_172, i147_175, bI_0, Bool.true_eq_false, z, k24, if_true, if_false, nI_add1]
          rfl
        | some q =>
          obtain ⟨hq1, hq2⟩ := hq q rfl
          have z : (akI (some q) = -1) = False := by rw [akI, nI_ne1 (by omega)]
          dsimp only
          by_cases c : moF ld m p b < q.2
          · rw [if_pos ⟨rfl, c⟩]
            have zl : (nI (moF ld m p b) < akL (some q)) = True := by rw [akL, nI_ltE (by omega) (by omega)]; exact eq_true c
            simp (disch := first | omega | decide | with_reducible assumption) only [i147_144, i147_146, i147_149, i147_150, i147_151, i147_154, i147_156, i147_157, i147_160, i147_162, i147_164, i147_165, i147_167, i147_168, i147_169, i147_171, i147_172, i147_175, bI_0, Bool.true_eq_false, z, zl, k24, if_true, if_false, nI_add1]
            rfl
          · rw [if_neg (fun z => c z.2)]
            have zl : (nI (moF ld m p b) < akL (some q)) = False := by rw [akL, nI_ltE (by omega) (by omega)]; exact eq_false c
            simp (disch := first | omega | decide | with_reducible assumption) only [i147_144, i147_146, i147_149, i147_150, i147_151, i147_154, i147_156, i147_157, i147_160, i147_162, i147_164, i147_165, i147_167, i147_168, i147_169, i147_171, i147_172, i147_175, bI_0, Bool.true_eq_false, z, zl, if_true, if_false, nI_add1]) ξ (v6, v7, v8) rfl
    refine ⟨ρ, (.int (nI (bnn (A μ 20) p)), v'.1, v'.2.1, v'.2.2), ?_, t1⟩
    try dsimp only
    rw [i147_26]
    simp (disch := first | omega | decide | with_reducible assumption) only [i147_28, i147_29, i147_32, i147_35, i147_36, i147_38, i147_41, i147_42, gM0 hMν, n0', lt_t, e1, b_v_s, b_i_s, b_n_s, b_r_s, b_r_n, b_m_s, b_c_s, b_c_v, if_true]
    refine (show _ = _ from e2).trans ?_
    try dsimp only
    generalize akB (mayF (A μ 24) (A μ 25) ld m p) (moF ld m p) (24 * p) st (bnn (A μ 20) p) = S
    rw [i147_44]
    simp (disch := first | omega | decide | with_reducible assumption) only [i147_46, i147_47, i147_50, i147_52, i147_53, i147_178, i147_181, gM1 hMξ, ga_A (aM20 hMξ), x20, lt_f, b_v_s, b_i_s, b_n_s, b_r_s, b_r_n, b_m_s, b_c_s, b_c_v, if_false, nI_add1]) μ (m_d, m_d, m_d, m_d) (SC.rf (I_M I))
  exact ⟨ν, v.1, v.2.1, v.2.2.1, v.2.2.2, e, s⟩
set_option maxHeartbeats 2000000 in
theorem call_ask (x : Int32) : CallOK C 81 147 [.int x] := by
  rintro μ ⟨np, nr, nl, ns, PA, QA, LA, sh, I⟩
  have hC := I_C I
  have hoC := CV_oc hC
  have h8 := I_np I
  have i2 : ∀ ν : mM, m_D 102 [.long x.toInt64, .long 0, .long 2] ν = some (some (.int (bI (inR x 3))), ν) := fun ν => in_R (k := 2) (by decide)
  cases hx : inR x 3 with
  | false =>
    rw [hx] at i2
    refine ⟨(-102), μ, μ, ?_, ?_, I_ok I⟩
    · by_cases d1 : x < 0
      · simp (disch := first | omega | decide | with_reducible assumption) only [D81, i81_0, i81_1, i81_4, i81_5, i81_6, i81_9, i81_11, d1, if_true]
      · have d2 : (2 : Int32) < x := by
          unfold inR at hx
          rw [decide_eq_false_iff_not] at hx
          rw [Int32.lt_iff_toInt_lt, show (0 : Int32).toInt = 0 by decide] at d1
          rw [Int32.lt_iff_toInt_lt, show (2 : Int32).toInt = 2 by decide]
          omega
        simp (disch := first | omega | decide | with_reducible assumption) only [D81, i81_0, i81_1, i81_4, i81_5, i81_6, i81_9, i81_11, d1, d2, if_true, if_false]
    · simp (disch := first | omega | decide | with_reducible assumption) only [D147, i147_0, i147_1, i147_2, i147_3, i147_6, i147_9, i147_12, i147_14, i2 μ, bI_0, b_v_s, b_i_s, b_n_s, b_r_s, b_r_n, b_m_s, b_c_s, b_c_v, if_true]
  | true =>
    rw [hx] at i2
    obtain ⟨t, ht, rfl⟩ := inR_nI hx
    obtain ⟨ν, e, J, ⟨⟨b0, b1, b2, b3, bL⟩, ba⟩, kp⟩ := C_refresh I
    have hCν := I_C J
    have hFν := J.2.1.2.2.2.1
    have hoF := FV_oc hFν
    have hMν := I_M J
    have hoν := oM_oc hMν
    obtain ⟨ξ, e2, s2, f2, g2⟩ := E_findFits hMν J.2.2.1.1 J.2.2.2.2.1
    have J2 := INV_SC J s2 (by decide) (by decide)
    have T : ∀ a, 20 ≤ a → a < 34 → A ξ a = A ν a := fun a h1 h2 => SC_A s2 (by omega) (by simp; omega)
    obtain ⟨k1, k2, k3⟩ := Kp_FT (μ := ν) (ν := ξ) ⟨T 20 (by decide) (by decide), T 21 (by decide) (by decide), T 22 (by decide) (by decide), T 23 (by decide) (by decide), T 24 (by decide) (by decide), T 25 (by decide) (by decide)⟩ np
    obtain ⟨ζ, v5, v6, v7, v8, e3, s3⟩ := E_askLoop (w := nI t) J2 (by rw [k1]; exact f2) (by rw [k1]; exact g2)
    rw [k3] at e3
    have J3 := INV_SC J2 s3 (by decide) (by decide)
    have hMζ := s3.1
    have z0 : FI ζ 19 0 = nI np := J3.2.2.1.1
    have hbn : ∀ p, p < np → bnn (A ν 20) p ≤ 24 := fun p hp => (I_pg J hp).2.2.2.1
    have hval : ∀ q, askV ν np = some q → q.2 = moF (ldF (A ν 20) (A ν 23) (A ν 21) (FT ν np)) (cnt (FT ν np) 3615) (q.1 / 24) (q.1 % 24) ∧ q.1 < 24 * np := akP_val hbn
    have hcl := cnt_le (FT ν np) 3615
    have cls : m_D 81 [.ref 0, .int (nI t)] μ = m_G 81 24 [.ref 0, .int (nI t), .int (akI (askV ν np))] [] ν := by
      simp (disch := first | omega | decide | with_reducible assumption) only [D81, i81_0, i81_1, i81_4, i81_5, i81_6, i81_9, i81_11, i81_12, i81_13, i81_16, i81_17, i81_20, i81_23, nI_lt0, n2, lt_f, e, gC10 hCν, gF4 hFν, ba, b_v_s, b_i_s, b_n_s, b_r_s, b_r_n, b_m_s, b_c_s, b_c_v, if_false]
    have mdl : m_D 147 [.ref 19, .int (nI t)] ν = m_G 147 184 [.ref 19, .int (nI t), .int (akI (askV ν np)), .int (akL (askV ν np)), .int (nI np), v5, v6, v7, v8] [] ζ := by
      simp (disch := first | omega | decide | with_reducible assumption) only [D147, i147_0, i147_1, i147_2, i147_3, i147_6, i147_9, i147_15, i147_16, i147_19, i147_20, i147_21, i147_22, i147_23, i147_24, i2 ν, bI_0, Bool.true_eq_false, e2, b_v_s, b_i_s, b_n_s, b_r_s, b_r_n, b_m_s, b_c_s, b_c_v, if_false]
      refine (show _ = _ from e3).trans ?_
      rw [i147_26]
      simp (disch := first | omega | decide | with_reducible assumption) only [i147_28, i147_29, i147_32, gM0 hMζ, z0, lt_f, b_v_s, b_i_s, b_n_s, b_r_s, b_r_n, b_m_s, b_c_s, b_c_v, if_false]
    cases hO : askV ν np with
    | none =>
      rw [hO] at cls mdl
      have z : (akI none = -1) = True := eq_true rfl
      refine ⟨(-1), ν, ζ, ?_, ?_, I_ok J3⟩
      · rw [cls]
        simp (disch := first | omega | decide | with_reducible assumption) only [i81_24, i81_25, i81_26, i81_29, i81_30, z, if_true]
      · rw [mdl]
        simp (disch := first | omega | decide | with_reducible assumption) only [i147_184, i147_185, i147_186, i147_189, i147_190, i147_193, i147_194, i147_197, i147_198, i147_200, i147_201, i147_204, i147_205, i147_206, i147_209, i147_210, i147_212, i147_213, i147_216, i147_217, z, if_true]
    | some q =>
      obtain ⟨hq2, hq1⟩ := hval q hO
      rw [hO] at cls mdl
      have z : (nI q.1 = -1) = False := nI_ne1 (by omega)
      have ne24 : ¬ nI 24 = 0 := by decide
      rw [akI] at cls mdl
      rw [akL] at mdl
      have cls2 : m_D 81 [.ref 0, .int (nI t)] μ = m_G 81 32 [.ref 0, .int (nI t), .int (nI q.1)] [.int (nI t)] ν := by
        rw [cls]
        simp (disch := first | omega | decide | with_reducible assumption) only [i81_24, i81_25, i81_26, i81_29, i81_30, i81_31, z, if_false]
      rcases (show t = 0 ∨ t = 1 ∨ t = 2 by omega) with rfl | rfl | rfl
      · refine ⟨(nI (q.1 / 24)), ν, ζ, ?_, ?_, I_ok J3⟩
        · rw [cls2, show nI 0 = 0 from rfl]
          simp (disch := first | omega | exact ne24 | decide | with_reducible assumption) only [i81_32_0, i81_60, i81_61, i81_63, i81_64, n24, nI_div]
        · rw [mdl]
          simp (disch := first | omega | exact ne24 | decide | with_reducible assumption) only [i147_184, i147_185, i147_186, i147_189, i147_190, i147_193, i147_194, i147_197, i147_198, i147_200, i147_201, i147_204, i147_205, i147_206, i147_209, i147_210, i147_212, i147_213, i147_216, i147_217, z, nI00, n24, nI_div, if_true, if_false]
      · refine ⟨(nI (q.1 % 24)), ν, ζ, ?_, ?_, I_ok J3⟩
        · rw [cls2, show nI 1 = 1 from rfl]
          simp (disch := first | omega | exact ne24 | decide | with_reducible assumption) only [i81_32_1, i81_65, i81_66, i81_68, i81_69, n24, nI_rem]
        · rw [mdl]
          have y1 : (nI 1 = 0) = False := eq_false (by decide)
          have y2 : (nI 1 = 1) = True := eq_true rfl
          simp (disch := first | omega | exact ne24 | decide | with_reducible assumption) only [i147_184, i147_185, i147_186, i147_189, i147_190, i147_193, i147_194, i147_197, i147_198, i147_200, i147_201, i147_204, i147_205, i147_206, i147_209, i147_210, i147_212, i147_213, i147_216, i147_217, z, y1, y2, n24, nI_rem, if_true, if_false]
      · have hp : q.1 / 24 < np := by omega
        have hgp := C_greaterPart (μ := ν) (i := q.1) (l := ldF (A ν 20) (A ν 23) (A ν 21) (FT ν np) (q.1 / 24) (q.1 % 24)) (m := cnt (FT ν np) 3615) hFν (by omega) (by
          have := bL (q.1 / 24) hp (q.1 % 24) (Nat.mod_lt _ (by decide))
          rw [show 24 * (q.1 / 24) + q.1 % 24 = q.1 by omega] at this
          exact this) b0 (ldF_le _ _ _ _ _ _) (by omega)
        have hmo : (if ldF (A ν 20) (A ν 23) (A ν 21) (FT ν np) (q.1 / 24) (q.1 % 24) < cnt (FT ν np) 3615 - ldF (A ν 20) (A ν 23) (A ν 21) (FT ν np) (q.1 / 24) (q.1 % 24) then cnt (FT ν np) 3615 - ldF (A ν 20) (A ν 23) (A ν 21) (FT ν np) (q.1 / 24) (q.1 % 24) else ldF (A ν 20) (A ν 23) (A ν 21) (FT ν np) (q.1 / 24) (q.1 % 24)) = q.2 := hq2.symm
        rw [hmo] at hgp
        refine ⟨(nI q.2), ν, ζ, ?_, ?_, I_ok J3⟩
        · rw [cls2, i81_32_d (by decide)]
          simp (disch := first | omega | decide | with_reducible assumption) only [i81_70, i81_71, i81_74, i81_75, i81_78, gC10 hCν, hgp, b_v_s, b_i_s, b_n_s, b_r_s, b_r_n, b_m_s, b_c_s, b_c_v]
        · rw [mdl]
          have y1 : (nI 2 = 0) = False := eq_false (by decide)
          have y2 : (nI 2 = 1) = False := eq_false (by decide)
          simp (disch := first | omega | decide | with_reducible assumption) only [i147_184, i147_185, i147_186, i147_189, i147_190, i147_193, i147_194, i147_197, i147_198, i147_200, i147_201, i147_204, i147_205, i147_206, i147_209, i147_210, i147_212, i147_213, i147_216, i147_217, z, y1, y2, if_true, if_false]
end calls7
