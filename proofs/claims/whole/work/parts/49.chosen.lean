/-! which sentence is chosen -/
def cI : Option Nat → Int32
  | none => -1
  | some c => nI c
def chs (w : Bool) (fit : Nat → Bool) (EV : Nat → Nat) (N : Nat) : Nat → Option Nat
  | 0 => none
  | i + 1 => if fit (N - 1 - i) = true then (match chs w fit EV N i with
    | none => some (N - 1 - i)
    | some c => if w = false ∨ EV c ≤ EV (N - 1 - i) then some (N - 1 - i) else some c) else chs w fit EV N i
theorem chs_st (w : Bool) (fit : Nat → Bool) (EV : Nat → Nat) (N i : Nat) : chs w fit EV N (i + 1) = if fit (N - 1 - i) = true then (match chs w fit EV N i with
    | none => some (N - 1 - i)
    | some c => if w = false ∨ EV c ≤ EV (N - 1 - i) then some (N - 1 - i) else some c) else chs w fit EV N i := rfl
theorem chs_lt (w : Bool) (fit : Nat → Bool) (EV : Nat → Nat) (N i : Nat) (hN : 0 < N) : ∀ c, chs w fit EV N i = some c → c < N ∧ fit c = true := by
  induction i with
  | zero => intro c hc; cases hc
  | succ i ih =>
    intro c hc
    rw [chs_st] at hc
    by_cases hF : fit (N - 1 - i) = true
    · rw [if_pos hF] at hc
      cases hS : chs w fit EV N i with
      | none => rw [hS] at hc; injection hc with hc; subst hc; exact ⟨by omega, hF⟩
      | some d =>
        rw [hS] at hc
        dsimp only at hc
        by_cases q : w = false ∨ EV d ≤ EV (N - 1 - i)
        · rw [if_pos q] at hc; injection hc with hc; subst hc; exact ⟨by omega, hF⟩
        · rw [if_neg q] at hc; injection hc with hc; subst hc; exact ih d hS
    · rw [if_neg hF] at hc; exact ih c hc
theorem n3614 : (3614 : Int32) = nI 3614 := rfl
theorem nI_lt0 {a : Nat} (ha : a < 2147483648) : (nI a < 0) = False := by rw [n0, nI_ltE ha (by decide)]; exact eq_false (Nat.not_lt_zero a)
theorem n3614e : nI 3614 - nI 3615 = -1 := by decide +kernel
theorem m1lt : ((-1 : Int32) < 0) = True := eq_true (by decide)
theorem nI_m0 : nI 3614 - nI 0 = 3614 := by decide +kernel
section chosens
variable {μ : mM}
set_option maxHeartbeats 400000 in
theorem E_ch {w : Bool} {fit : Nat → Bool} {EV : Nat → Nat} (h : MS μ) (hf : ∀ x, x < 3615 → A μ 35 x = bI (fit x)) (hE : w = true → ∀ x, x < 3615 → A μ 36 x = nI (EV x)) (hle : ∀ x, EV x ≤ 8) (v4 : Value) : m_G 142 19 [.ref 19, .int (bI w), .int (-1), .int 3614, v4] [] μ = some (some (.int (cI (chs w fit EV 3615 3615))), μ) := by
  have L := loop_b (fun i (v : Value) => m_G 142 19 [.ref 19, .int (bI w), .int (cI (chs w fit EV 3615 i)), .int (nI 3614 - nI i), v] [] μ) 3615 (some (some (.int (cI (chs w fit EV 3615 3615))), μ)) (fun v => by
    try dsimp only
    generalize chs w fit EV 3615 3615 = R
    rw [i142_19, n3614e]
    simp only [i142_20, i142_80, i142_81, m1lt, if_true]) (fun i v hi => by
    try dsimp only
    have r35 := hf (3614 - i) (by omega)
    have hc := chs_lt w fit EV 3615 i (by decide)
    have hx : nI 3614 - nI i = nI (3614 - i) := nI_minus (by omega)
    rw [chs_st]
    generalize chs w fit EV 3615 i = R at hc
    rw [show (3615 : Nat) - 1 - i = 3614 - i from by omega]
    rw [← nI_dec, hx, i142_19]
    have hxl : 3614 - i < 3615 := by omega
    clear hx hi
    generalize 3614 - i = x at *
    have hex := hle x
    cases hF : fit x with
    | false =>
      rw [hF] at r35
      rw [if_neg (by decide)]
      cases R with
      | none =>
        refine ⟨.int 1, ?_⟩
        simp (disch := first | omega | with_reducible assumption) only [cI, i142_20, i142_23, i142_24, i142_25, i142_28, i142_29, i142_32, i142_33, i142_36, i142_37, i142_38, i142_39, i142_42, i142_43, i142_44, i142_47, i142_48, i142_51, i142_52, i142_54, i142_55, i142_58, i142_59, i142_60, i142_63, i142_65, i142_68, i142_69, i142_72, i142_73, i142_74, i142_77, nI_lt0, if_true, if_false, gM22 h, gb_A (aM35 h) (Or.inl rfl), b_v_s, b_i_s, b_n_s, b_r_s, b_r_n, b_m_s, b_c_s, b_c_v, r35, bI_0]
      | some c =>
        have hc' := (hc c rfl).1
        have hec := hle c
        cases w with
        | false =>
          refine ⟨.int 1, ?_⟩
          simp (disch := first | omega | with_reducible assumption) only [cI, i142_20, i142_23, i142_24, i142_25, i142_28, i142_29, i142_32, i142_33, i142_36, i142_37, i142_38, i142_39, i142_42, i142_43, i142_44, i142_47, i142_48, i142_51, i142_52, i142_54, i142_55, i142_58, i142_59, i142_60, i142_63, i142_65, i142_68, i142_69, i142_72, i142_73, i142_74, i142_77, nI_lt0, nI_ne1, bI_0, if_true, if_false, gM22 h, gb_A (aM35 h) (Or.inl rfl), b_v_s, b_i_s, b_n_s, b_r_s, b_r_n, b_m_s, b_c_s, b_c_v, r35]
        | true =>
          have E1 := hE rfl x hxl
          have E2 := hE rfl c hc'
          by_cases c1 : EV x < EV c
          · refine ⟨.int 0, ?_⟩
            simp (disch := first | omega | with_reducible assumption) only [cI, i142_20, i142_23, i142_24, i142_25, i142_28, i142_29, i142_32, i142_33, i142_36, i142_37, i142_38, i142_39, i142_42, i142_43, i142_44, i142_47, i142_48, i142_51, i142_52, i142_54, i142_55, i142_58, i142_59, i142_60, i142_63, i142_65, i142_68, i142_69, i142_72, i142_73, i142_74, i142_77, nI_lt0, nI_ne1, bI_0, E1, E2, lt_t, Bool.true_eq_false, if_true, if_false, gM22 h, gb_A (aM35 h) (Or.inl rfl), gM24 h, ga_A (aM36 h), b_v_s, b_i_s, b_n_s, b_r_s, b_r_n, b_m_s, b_c_s, b_c_v, r35]
          · refine ⟨.int 1, ?_⟩
            simp (disch := first | omega | with_reducible assumption) only [cI, i142_20, i142_23, i142_24, i142_25, i142_28, i142_29, i142_32, i142_33, i142_36, i142_37, i142_38, i142_39, i142_42, i142_43, i142_44, i142_47, i142_48, i142_51, i142_52, i142_54, i142_55, i142_58, i142_59, i142_60, i142_63, i142_65, i142_68, i142_69, i142_72, i142_73, i142_74, i142_77, nI_lt0, nI_ne1, bI_0, E1, E2, lt_f, Bool.true_eq_false, if_true, if_false, gM22 h, gb_A (aM35 h) (Or.inl rfl), gM24 h, ga_A (aM36 h), b_v_s, b_i_s, b_n_s, b_r_s, b_r_n, b_m_s, b_c_s, b_c_v, r35]
    | true =>
      rw [hF] at r35
      rw [if_pos rfl]
      cases R with
      | none =>
        refine ⟨.int 1, ?_⟩
        simp (disch := first | omega | with_reducible assumption) only [cI, i142_20, i142_23, i142_24, i142_25, i142_28, i142_29, i142_32, i142_33, i142_36, i142_37, i142_38, i142_39, i142_42, i142_43, i142_44, i142_47, i142_48, i142_51, i142_52, i142_54, i142_55, i142_58, i142_59, i142_60, i142_63, i142_65, i142_68, i142_69, i142_72, i142_73, i142_74, i142_77, nI_lt0, ne10, if_true, if_false, gM22 h, gb_A (aM35 h) (Or.inl rfl), b_v_s, b_i_s, b_n_s, b_r_s, b_r_n, b_m_s, b_c_s, b_c_v, r35, bI_0, Bool.true_eq_false]
      | some c =>
        have hc' := (hc c rfl).1
        have hec := hle c
        cases w with
        | false =>
          refine ⟨.int 1, ?_⟩
          simp (disch := first | omega | with_reducible assumption) only [cI, i142_20, i142_23, i142_24, i142_25, i142_28, i142_29, i142_32, i142_33, i142_36, i142_37, i142_38, i142_39, i142_42, i142_43, i142_44, i142_47, i142_48, i142_51, i142_52, i142_54, i142_55, i142_58, i142_59, i142_60, i142_63, i142_65, i142_68, i142_69, i142_72, i142_73, i142_74, i142_77, nI_lt0, nI_ne1, bI_0, ne10, true_or, if_true, if_false, gM22 h, gb_A (aM35 h) (Or.inl rfl), b_v_s, b_i_s, b_n_s, b_r_s, b_r_n, b_m_s, b_c_s, b_c_v, r35, Bool.true_eq_false]
        | true =>
          have E1 := hE rfl x hxl
          have E2 := hE rfl c hc'
          by_cases c1 : EV x < EV c
          · refine ⟨.int 0, ?_⟩
            dsimp only
            rw [if_neg (by intro q; rcases q with q | q; cases q; omega)]
            simp (disch := first | omega | with_reducible assumption) only [cI, i142_20, i142_23, i142_24, i142_25, i142_28, i142_29, i142_32, i142_33, i142_36, i142_37, i142_38, i142_39, i142_42, i142_43, i142_44, i142_47, i142_48, i142_51, i142_52, i142_54, i142_55, i142_58, i142_59, i142_60, i142_63, i142_65, i142_68, i142_69, i142_72, i142_73, i142_74, i142_77, nI_lt0, nI_ne1, E1, E2, lt_t, ne10, if_true, if_false, gM22 h, gb_A (aM35 h) (Or.inl rfl), gM24 h, ga_A (aM36 h), b_v_s, b_i_s, b_n_s, b_r_s, b_r_n, b_m_s, b_c_s, b_c_v, r35, bI_0, Bool.true_eq_false]
          · refine ⟨.int 1, ?_⟩
            dsimp only
            rw [if_pos (Or.inr (by omega))]
            simp (disch := first | omega | with_reducible assumption) only [cI, i142_20, i142_23, i142_24, i142_25, i142_28, i142_29, i142_32, i142_33, i142_36, i142_37, i142_38, i142_39, i142_42, i142_43, i142_44, i142_47, i142_48, i142_51, i142_52, i142_54, i142_55, i142_58, i142_59, i142_60, i142_63, i142_65, i142_68, i142_69, i142_72, i142_73, i142_74, i142_77, nI_lt0, nI_ne1, E1, E2, lt_f, ne10, if_true, if_false, gM22 h, gb_A (aM35 h) (Or.inl rfl), gM24 h, ga_A (aM36 h), b_v_s, b_i_s, b_n_s, b_r_s, b_r_n, b_m_s, b_c_s, b_c_v, r35, bI_0, Bool.true_eq_false]) v4
  rw [nI_m0] at L
  exact L
/-- the sentences that fit, their evens -/
def FT (μ : mM) (np : Nat) : Nat → Bool := fun x => fitU (A μ 20) (A μ 23) (A μ 21) (A μ 24) (A μ 25) x np
def EVs (μ : mM) (np : Nat) : Nat → Nat := evx (cvv (A μ 20) (A μ 23) (A μ 21) (A μ 24) (A μ 25) (FT μ np)) (FT μ np) np
theorem EVs_le {np : Nat} (h8 : np ≤ 8) (x : Nat) : EVs μ np x ≤ 8 := by
  unfold EVs evx
  split
  · exact Nat.le_trans (evn_le _ _ _) h8
  · exact Nat.zero_le _
set_option maxHeartbeats 400000 in
theorem E_chosen {np : Nat} (w : Bool) (h : MS μ) (hp : FI μ 19 0 = nI np) (hg : PGs (A μ 20) (A μ 23) np) : ∃ ν, m_D 142 [.ref 19, .int (bI w)] μ = some (some (.int (cI (chs w (FT μ np) (EVs μ np) 3615 3615))), ν) ∧ SC [34, 35, 36, 37] [23] μ ν ∧ FI ν 19 23 = nI (cnt (FT μ np) 3615) ∧ (w = true → ∀ x, x < 3615 → A ν 36 x = nI (EVs μ np x)) := by
  have ho := oM_oc h
  obtain ⟨ν, e1, s1, f1, g1⟩ := E_findFits h hp hg
  have hν := s1.1
  have hoν := oM_oc hν
  have h8 := hg.1
  generalize hR : chs w (FT μ np) (EVs μ np) 3615 3615 = R
  cases w with
  | false =>
    refine ⟨ν, ?_, s1.mono (by decide) (by decide), g1, fun q => by cases q⟩
    have hch := E_ch (w := false) (EV := EVs μ np) hν f1 (fun q => by cases q) (EVs_le h8) m_d
    change m_G _ _ _ _ _ = some (some (Value.int (cI (chs false (FT μ np) (EVs μ np) 3615 3615))), ν) at hch
    rw [hR] at hch
    simp (disch := first | omega | with_reducible assumption) only [D142, i142_0, i142_1, i142_4, i142_5, i142_6, i142_9, i142_10, i142_13, i142_14, i142_15, i142_18, b_v_s, b_i_s, b_n_s, b_r_s, b_r_n, b_m_s, b_c_s, b_c_v, e1, bI_1, Bool.false_eq_true, if_false, hch]
  | true =>
    have x20 : A ν 20 = A μ 20 := SC_A s1 (by decide) (by decide)
    have x21 : A ν 21 = A μ 21 := SC_A s1 (by decide) (by decide)
    have x23 : A ν 23 = A μ 23 := SC_A s1 (by decide) (by decide)
    have x24 : A ν 24 = A μ 24 := SC_A s1 (by decide) (by decide)
    have x25 : A ν 25 = A μ 25 := SC_A s1 (by decide) (by decide)
    have hnp : FI ν 19 0 = nI np := (s1.2.2.2.2 0 (by decide)).trans hp
    obtain ⟨ξ, e2, s2, f2⟩ := E_findEvens (fit := FT μ np) hν hnp (by rw [x20, x23]; exact hg) f1
    rw [x20, x21, x23, x24, x25] at f2
    change ∀ x, x < 3615 → A ξ 36 x = nI (EVs μ np x) at f2
    have hξ := s2.1
    have g2 : FI ξ 19 23 = nI (cnt (FT μ np) 3615) := (s2.2.2.2.2 23 (by decide)).trans g1
    refine ⟨ξ, ?_, (s1.mono (by decide) (by decide)).tr (s2.mono (by decide) (by decide)), g2, fun _ => f2⟩
    have hch := E_ch (w := true) (fit := FT μ np) (EV := EVs μ np) hξ (fun x hx => by rw [SC_A s2 (by decide) (by decide)]; exact f1 x hx) (fun _ => f2) (EVs_le h8) m_d
    rw [hR] at hch
    simp (disch := first | omega | with_reducible assumption) only [D142, i142_0, i142_1, i142_4, i142_5, i142_6, i142_9, i142_10, i142_13, i142_14, i142_15, i142_18, b_v_s, b_i_s, b_n_s, b_r_s, b_r_n, b_m_s, b_c_s, b_c_v, e1, e2, bI_1, if_true, hch]
end chosens
