/-! the class: which sentences fit -/
def PGV (μ : mM) (np : Nat) (PA : Nat → Nat) (BM PR KD WD MK WH : Nat → Int32) : Prop := np ≤ 8 ∧ isR μ 2 3 8 ∧ ∀ p, p < np → RA μ 2 p = some (PA p) ∧ PV μ (PA p) p (bnn BM p) PR KD WD ∧ PMk μ (PA p) p (bnn BM p) MK WH ∧ DRN μ (PA p) p (bnn BM p) PR KD
def ADs (PA : Nat → Nat) (np : Nat) : Prop := ∀ p, p < np → 48 ≤ PA p ∧ ∀ q, q < np → p ≠ q → PA p + 10 ≤ PA q ∨ PA q + 10 ≤ PA p
def ADr (μ : mM) (np : Nat) (PA : Nat → Nat) (BM PR KD : Nat → Int32) : Prop := ∀ p, p < np → ∀ x, x < 3615 → A μ (PA p + 2) x = sn PR KD p (bnn BM p) x
def TFt : Tm := [none, none, none, none, none, some (some 12), some (some 13)]
def FV (μ : mM) : Prop := isO μ 11 0 TFt ∧ isA μ 12 0 192 ∧ isA μ 13 0 25
theorem PMk_K {X : List Nat} {Y : List (Nat × Nat)} {μ ν : mM} {a p n : Nat} {MK WH : Nat → Int32} (h : PMk μ a p n MK WH) (k : K X Y μ ν) (hY : (a, 11) ∉ Y ∧ (a, 12) ∉ Y ∧ (a, 13) ∉ Y) : PMk ν a p n MK WH := by
  unfold PMk
  rw [K_FI k hY.1, K_FI k hY.2.1, K_FI k hY.2.2]
  exact h
theorem DRN_K {X : List Nat} {Y : List (Nat × Nat)} {μ ν : mM} {a p n : Nat} {PR KD : Nat → Int32} (h : DRN μ a p n PR KD) (k : K X Y μ ν) (hX : a + 2 ∉ X) (hY : (a, 15) ∉ Y) : DRN ν a p n PR KD := by
  unfold DRN
  rw [K_FI k hY, K_A k hX]
  exact h
theorem PGV_K {X : List Nat} {Y : List (Nat × Nat)} {μ ν : mM} {np : Nat} {PA : Nat → Nat} {BM PR KD WD MK WH : Nat → Int32} (h : PGV μ np PA BM PR KD WD MK WH) (hA : ADs PA np) (k : K X Y μ ν) (hX : ∀ a ∈ X, a < 48) (hY : ∀ y ∈ Y, y.1 < 48) : PGV ν np PA BM PR KD WD MK WH := by
  refine ⟨h.1, K_isR k h.2.1, fun p hp => ?_⟩
  obtain ⟨h1, h2, h3, h4⟩ := h.2.2 p hp
  have ha := (hA p hp).1
  have nX : ∀ j, PA p + j ∉ X := fun j q => by have := hX _ q; omega
  have nY : ∀ j, (PA p, j) ∉ Y := fun j q => by have : PA p < 48 := hY _ q; omega
  exact ⟨by rw [K_RA k]; exact h1, PV_K h2 k (fun j _ _ _ => nX j) ⟨nY 0, nY 9, nY 10⟩, PMk_K h3 k ⟨nY 11, nY 12, nY 13⟩, DRN_K h4 k (nX 2) (nY 15)⟩
theorem ADr_K {X : List Nat} {Y : List (Nat × Nat)} {μ ν : mM} {np : Nat} {PA : Nat → Nat} {BM PR KD : Nat → Int32} (h : ADr μ np PA BM PR KD) (hA : ADs PA np) (k : K X Y μ ν) (hX : ∀ a ∈ X, a < 48) : ADr ν np PA BM PR KD := by
  intro p hp x hx
  have ha := (hA p hp).1
  rw [K_A k (fun q => by have := hX _ q; omega)]
  exact h p hp x hx
theorem FV_K {X : List Nat} {Y : List (Nat × Nat)} {μ ν : mM} (h : FV μ) (k : K X Y μ ν) : FV ν := ⟨K_isO k h.1, K_isA k h.2.1, K_isA k h.2.2⟩
theorem gF5 {μ : mM} (h : FV μ) : m_gf μ 11 0 5 = some (.ref 12) := gO (e := some (some 12)) h.1 rfl
theorem gF6 {μ : mM} (h : FV μ) : m_gf μ 11 0 6 = some (.ref 13) := gO (e := some (some 13)) h.1 rfl
theorem gF0 {μ : mM} (h : FV μ) : m_gf μ 11 0 0 = some (.int (FI μ 11 0)) := gO (e := none) h.1 rfl
theorem gF1 {μ : mM} (h : FV μ) : m_gf μ 11 0 1 = some (.int (FI μ 11 1)) := gO (e := none) h.1 rfl
theorem gF2 {μ : mM} (h : FV μ) : m_gf μ 11 0 2 = some (.int (FI μ 11 2)) := gO (e := none) h.1 rfl
theorem gF3 {μ : mM} (h : FV μ) : m_gf μ 11 0 3 = some (.int (FI μ 11 3)) := gO (e := none) h.1 rfl
theorem gF4 {μ : mM} (h : FV μ) : m_gf μ 11 0 4 = some (.int (FI μ 11 4)) := gO (e := none) h.1 rfl
theorem FV_oc {μ : mM} (h : FV μ) : m_oc μ 11 = some 0 := gO_oc h.1
theorem pgr {μ : mM} {np p : Nat} {PA : Nat → Nat} {BM PR KD WD MK WH : Nat → Int32} (h : PGV μ np PA BM PR KD WD MK WH) (hp : p < np) : m_gr μ 2 (nI p) = some (some (PA p)) := by
  have := h.1
  rw [gR h.2.1 (by omega) (by decide), (h.2.2 p hp).1]
theorem fst_alB (BM PR KD MK WH : Nat → Int32) (x n : Nat) : fitU BM PR KD MK WH x n = match fst (fun p => !(met (sn PR KD p (bnn BM p) x) (mks BM MK p 1) (mks BM MK p 2) (WH p))) n 0 with
    | some _ => false
    | none => true := by
  cases h : fst (fun p => !(met (sn PR KD p (bnn BM p) x) (mks BM MK p 1) (mks BM MK p 2) (WH p))) n 0 with
  | none =>
    have q := fst_none _ _ h
    have key : ∀ k, k ≤ n → fitU BM PR KD MK WH x k = true := by
      intro k
      induction k with
      | zero => intro _; rfl
      | succ k ih =>
        intro hk
        have := q k (Nat.zero_le k) (by omega)
        rw [fitU, ih (by omega)]
        simpa using this
    exact key n (Nat.le_refl n)
  | some k =>
    obtain ⟨_, h2, h3, _⟩ := fst_some _ _ _ h
    have key : ∀ j, k < j → fitU BM PR KD MK WH x j = false := by
      intro j
      induction j with
      | zero => intro q; omega
      | succ j ih =>
        intro q
        rw [fitU]
        by_cases e : k = j
        · subst e
          simp at h3
          rw [h3, Bool.and_false]
        · rw [ih (by omega), Bool.false_and]
    exact key n (by omega)
section cfit
variable {μ : mM} {np : Nat} {PA : Nat → Nat} {BM PR KD WD MK WH : Nat → Int32}
theorem C_isFit {x : Nat} (h : PGV μ np PA BM PR KD WD MK WH) (hd : ADr μ np PA BM PR KD) (hx : x < 3615) : m_D 2 [.ref 2, .int (nI np), .int (nI x)] μ = some (some (.int (bI (fitU BM PR KD MK WH x np))), μ) := by
  have h8 := h.1
  have L := loop_ret (fun p => m_G 2 2 [.ref 2, .int (nI np), .int (nI x), .int (nI p)] [] μ) (fun p => !(met (sn PR KD p (bnn BM p) x) (mks BM MK p 1) (mks BM MK p 2) (WH p))) (fun _ => some (some (.int 0), μ)) (some (some (.int 1), μ)) np (fun p hp => by
    try dsimp only
    obtain ⟨_, h2, h3, _⟩ := h.2.2 p hp
    have hg := pgr h hp
    have ho := P_oc h2
    have hs := P_sets h2 hx
    rw [hd p hp x hx] at hs
    have hm := C_isMet (BM := BM) (s := sn PR KD p (bnn BM p) x) h2 h3 rfl
    rw [i2_2]
    cases hM : met (sn PR KD p (bnn BM p) x) (mks BM MK p 1) (mks BM MK p 2) (WH p) with
    | false =>
      rw [hM] at hm
      simp (disch := first | omega | decide | with_reducible assumption) only [i2_3, i2_4, i2_7, i2_8, i2_9, i2_10, i2_11, i2_12, i2_13, i2_16, i2_17, i2_18, i2_21, i2_24, i2_25, i2_26, i2_29, lt_t, if_true, hg, b_v_s, b_i_s, b_n_s, b_r_s, b_r_n, b_m_s, b_c_s, b_c_v, P_fsentenceSets h2, hs, hm, bI_0, Bool.not_false]
    | true =>
      rw [hM] at hm
      simp (disch := first | omega | decide | with_reducible assumption) only [i2_3, i2_4, i2_7, i2_8, i2_9, i2_10, i2_11, i2_12, i2_13, i2_16, i2_17, i2_18, i2_21, i2_24, i2_25, i2_26, i2_29, lt_t, if_true, if_false, hg, b_v_s, b_i_s, b_n_s, b_r_s, b_r_n, b_m_s, b_c_s, b_c_v, P_fsentenceSets h2, hs, hm, bI_0, Bool.not_true, Bool.true_eq_false, Bool.false_eq_true, nI_add1]) (by
    try dsimp only
    rw [i2_2]
    simp (disch := first | omega | decide | with_reducible assumption) only [i2_3, i2_4, i2_7, i2_8, i2_9, i2_10, i2_11, i2_12, i2_13, i2_16, i2_17, i2_18, i2_21, i2_24, i2_25, i2_26, i2_29, i2_32, i2_33, lt_f, if_false])
  simp only [D2, i2_0, i2_1, n0]
  refine (show _ = _ from L).trans ?_
  rw [fst_alB]
  cases fst (fun p => !(met (sn PR KD p (bnn BM p) x) (mks BM MK p 1) (mks BM MK p 2) (WH p))) np 0 <;> rfl
/-- how evenly, as the class counts -/
def moE (cv : Nat → Nat) : Nat → Nat
  | 0 => 0
  | p + 1 => if 0 < cv p then (if moE cv p < cnt (fun q => decide (cv q = cv p)) (p + 1) then cnt (fun q => decide (cv q = cv p)) (p + 1) else moE cv p) else moE cv p
theorem moE_st (cv : Nat → Nat) (p : Nat) : moE cv (p + 1) = if 0 < cv p then (if moE cv p < cnt (fun q => decide (cv q = cv p)) (p + 1) then cnt (fun q => decide (cv q = cv p)) (p + 1) else moE cv p) else moE cv p := rfl
theorem moE_le (cv : Nat → Nat) (p : Nat) : moE cv p ≤ p := by
  induction p with
  | zero => exact Nat.le_refl 0
  | succ p ih =>
    rw [moE_st]
    have := cnt_le (fun q => decide (cv q = cv p)) (p + 1)
    split
    · split <;> omega
    · omega
theorem moE_evn (cv : Nat → Nat) (np : Nat) : moE cv np = evn cv np np := by
  have h1 : ∀ c, 0 < c → ∀ k, cnt (fun q => decide (cv q = c)) k ≤ moE cv k := by
    intro c hc k
    induction k with
    | zero => exact Nat.le_refl 0
    | succ k ih =>
      rw [moE_st, cnt_st]
      by_cases e : cv k = c
      · rw [if_pos (show 0 < cv k by omega), e, cnt_st, decide_eq_true e, if_pos rfl]
        (repeat' split) <;> omega
      · rw [decide_eq_false e, if_neg (by decide)]
        split
        · split <;> omega
        · omega
  have h2 : ∀ k, k ≤ np → evn cv np k ≤ moE cv np := by
    intro k
    induction k with
    | zero => intro _; exact Nat.zero_le _
    | succ k ih =>
      intro hk
      rw [evn_st]
      split
      · rename_i q
        exact h1 _ q.1 np
      · exact ih (by omega)
  have h4 : ∀ k, k ≤ np → ∀ j, j < k → 0 < cv j → cnt (fun q => decide (cv q = cv j)) np ≤ evn cv np k := by
    intro k
    induction k with
    | zero => intro _ j hj; omega
    | succ k ih =>
      intro hk j hj hc
      rw [evn_st]
      by_cases e : j = k
      · subst e
        split
        · exact Nat.le_refl _
        · rename_i q; omega
      · have := ih (by omega) j (by omega) hc
        split <;> omega
  have h3 : ∀ k, k ≤ np → moE cv k ≤ evn cv np np := by
    intro k
    induction k with
    | zero => intro _; exact Nat.zero_le _
    | succ k ih =>
      intro hk
      rw [moE_st]
      have := ih (by omega)
      split
      · rename_i q
        have a1 := h4 np (Nat.le_refl _) k (by omega) q
        have a2 : cnt (fun q => decide (cv q = cv k)) (k + 1) ≤ cnt (fun q => decide (cv q = cv k)) np := cnt_lt_mono _ hk
        split <;> omega
      · exact this
  exact Nat.le_antisymm (h3 np (Nat.le_refl _)) (h2 np (Nat.le_refl _))
def cvE (BM PR KD MK WH : Nat → Int32) (x p : Nat) : Nat := if own BM MK WH p = true then cnt (bt (sn PR KD p (bnn BM p) x)) 24 else 0
set_option maxHeartbeats 1000000 in
theorem C_evenOf {x : Nat} (h : PGV μ np PA BM PR KD WD MK WH) (hA : ADs PA np) (hd : ADr μ np PA BM PR KD) (hF : FV μ) (hx : x < 3615) : ∃ ν, m_D 4 [.ref 11, .ref 2, .int (nI np), .int (nI x)] μ = some (some (.int (nI (moE (cvE BM PR KD MK WH x) np))), ν) ∧ K [13] [] μ ν := by
  have h8 := h.1
  obtain ⟨ν1, e1, s1, f1⟩ := C_fill (v := 0) hF.2.2 (by decide)
  obtain ⟨ν, w, e, s, f⟩ := loop_inv (fun p ν (v : Value) => m_G 4 14 [.ref 11, .ref 2, .int (nI np), .int (nI x), .int (nI (moE (cvE BM PR KD MK WH x) p)), .int (nI p), v] [] ν) (fun p ν => K [13] [] μ ν ∧ ∀ c, 1 ≤ c → c < 25 → A ν 13 c = nI (cnt (fun q => decide (cvE BM PR KD MK WH x q = c)) p)) np (fun p ν v hp P => by
    obtain ⟨s, f⟩ := P
    have hν := PGV_K h hA s (by simp) (by simp)
    have hFν := FV_K hF s
    have hdν := ADr_K hd hA s (by simp)
    obtain ⟨_, h2, h3, _⟩ := hν.2.2 p hp
    have hg := pgr hν hp
    have ho := P_oc h2
    have hs := P_sets h2 hx
    rw [hdν p hp x hx] at hs
    have hn := PV_n h2
    have h1n := h2.2.2.1.1
    have hbc : m_D 169 [.int (sn PR KD p (bnn BM p) x)] ν = some (some (.int (nI (cnt (bt (sn PR KD p (bnn BM p) x)) 24))), ν) := by
      rw [E_bitCount, cnt_hi (fun i hi => by have := sn_lt h1n hn hi; omega)]
    have hm := C_isUnmarked (BM := BM) h2 h3 rfl
    have hcl := cnt_le (bt (sn PR KD p (bnn BM p) x)) 24
    have hml := moE_le (cvE BM PR KD MK WH x) p
    have hcv : cvE BM PR KD MK WH x p = if own BM MK WH p = true then cnt (bt (sn PR KD p (bnn BM p) x)) 24 else 0 := rfl
    generalize cnt (bt (sn PR KD p (bnn BM p) x)) 24 = C at *
    by_cases c0 : C = 0
    · have hz : cvE BM PR KD MK WH x p = 0 := by rw [hcv, c0]; split <;> rfl
      refine ⟨ν, .int (nI 0), ?_, s, fun c hc1 hc2 => ?_⟩
      · try dsimp only
        rw [i4_14, moE_st, if_neg (by omega)]
        rw [c0] at hbc
        simp (disch := first | omega | decide | with_reducible assumption) only [i4_16, i4_17, i4_20, i4_21, i4_23, i4_24, i4_27, i4_28, i4_29, i4_32, i4_34, i4_36, i4_39, i4_40, i4_42, i4_43, i4_46, i4_49, i4_50, i4_53, i4_55, i4_56, i4_57, i4_58, i4_59, i4_60, i4_62, i4_63, i4_66, i4_68, i4_69, i4_72, i4_74, i4_77, lt_t, if_true, hg, b_v_s, b_i_s, b_n_s, b_r_s, b_r_n, b_m_s, b_c_s, b_c_v, P_fsentenceSets h2, hs, hbc, le_0, nI_add1]
      · rw [f c hc1 hc2, cnt_st, decide_eq_false (by omega), if_neg (by decide), Nat.add_zero]
    · cases hO : own BM MK WH p with
      | false =>
        rw [hO] at hm
        have hz : cvE BM PR KD MK WH x p = 0 := by rw [hcv, hO]; rfl
        refine ⟨ν, .int (nI C), ?_, s, fun c hc1 hc2 => ?_⟩
        · try dsimp only
          rw [i4_14, moE_st, if_neg (by omega)]
          simp (disch := first | omega | decide | with_reducible assumption) only [i4_16, i4_17, i4_20, i4_21, i4_23, i4_24, i4_27, i4_28, i4_29, i4_32, i4_34, i4_36, i4_39, i4_40, i4_42, i4_43, i4_46, i4_49, i4_50, i4_53, i4_55, i4_56, i4_57, i4_58, i4_59, i4_60, i4_62, i4_63, i4_66, i4_68, i4_69, i4_72, i4_74, i4_77, lt_t, if_true, if_false, hg, b_v_s, b_i_s, b_n_s, b_r_s, b_r_n, b_m_s, b_c_s, b_c_v, P_fsentenceSets h2, hs, hbc, le_0, c0, hm, bI_0, nI_add1]
        · rw [f c hc1 hc2, cnt_st, decide_eq_false (by omega), if_neg (by decide), Nat.add_zero]
      | true =>
        rw [hO] at hm
        have hz : cvE BM PR KD MK WH x p = C := by rw [hcv, hO, if_pos rfl]
        have fC := f C (by omega) (by omega)
        have a13 := hFν.2.2
        have hcu : cnt (fun q => decide (cvE BM PR KD MK WH x q = C)) (p + 1) = cnt (fun q => decide (cvE BM PR KD MK WH x q = C)) p + 1 := by rw [cnt_st, decide_eq_true hz, if_pos rfl]
        have hcl2 := cnt_le (fun q => decide (cvE BM PR KD MK WH x q = C)) (p + 1)
        refine ⟨wA ν 13 (upd (A ν 13) C (nI (cnt (fun q => decide (cvE BM PR KD MK WH x q = C)) (p + 1)))), .int (nI C), ?_, s.tr (K_wA a13 _ (by simp)), fun c hc1 hc2 => ?_⟩
        · try dsimp only
          rw [i4_14, moE_st, if_pos (by omega), hz]
          have hF2 : FV (wA ν 13 (upd (A ν 13) C (nI (cnt (fun q => decide (cvE BM PR KD MK WH x q = C)) p + 1)))) := FV_K hFν (K_wA (X := [13]) (Y := []) a13 _ (by simp))
          have rd : m_ga (wA ν 13 (upd (A ν 13) C (nI (cnt (fun q => decide (cvE BM PR KD MK WH x q = C)) p + 1)))) 13 (nI C) = some (nI (cnt (fun q => decide (cvE BM PR KD MK WH x q = C)) p + 1)) := by
            rw [ga_A hF2.2.2 (by omega) (by decide), wA_A a13, if_pos rfl, upd_at, if_pos rfl]
          rw [hcu] at hcl2 ⊢
          generalize cnt (fun q => decide (cvE BM PR KD MK WH x q = C)) p = U at *
          simp (disch := first | omega | decide | with_reducible assumption) only [i4_16, i4_17, i4_20, i4_21, i4_23, i4_24, i4_27, i4_28, i4_29, i4_32, i4_34, i4_36, i4_39, i4_40, i4_42, i4_43, i4_46, i4_49, i4_50, i4_53, i4_55, i4_56, i4_57, i4_58, i4_59, i4_60, i4_62, i4_63, i4_66, i4_68, i4_69, i4_72, i4_74, i4_77, lt_t, if_true, if_false, hg, b_v_s, b_i_s, b_n_s, b_r_s, b_r_n, b_m_s, b_c_s, b_c_v, P_fsentenceSets h2, hs, hbc, le_0, c0, hm, bI_0, Bool.true_eq_false, gF6 hFν, gF6 hF2, ga_A a13, pa_A a13, fC, rd, nI_add1, nI_ltE]
          congr 1
          by_cases q : moE (cvE BM PR KD MK WH x) p < U + 1
          · rw [if_pos q, if_pos q]
          · rw [if_neg q, if_neg q]
        · rw [wA_A a13, if_pos rfl, upd_at]
          by_cases q : c = C
          · rw [if_pos q, q]
          · rw [if_neg q, f c hc1 hc2, cnt_st, decide_eq_false (by omega), if_neg (by decide), Nat.add_zero]) ν1 m_d ⟨s1, fun c hc1 hc2 => by rw [f1 c hc2]; rfl⟩
  refine ⟨ν, ?_, s⟩
  simp (disch := first | omega | decide | with_reducible assumption) only [D4, i4_0, i4_1, i4_4, i4_5, i4_8, i4_9, i4_11, i4_12, gF6 hF, b_v_s, b_i_s, b_n_s, b_r_s, b_r_n, b_m_s, b_c_s, b_c_v, e1]
  refine (show _ = _ from e).trans ?_
  try dsimp only
  rw [i4_14]
  simp (disch := first | omega | decide | with_reducible assumption) only [i4_16, i4_17, i4_80, i4_82, lt_f, if_false]
end cfit
