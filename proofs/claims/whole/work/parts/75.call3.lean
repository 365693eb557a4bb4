/-! how like, the nearest, counts, the sheet's calls -/
section calls3
variable {C : Nat × (Nat → Int32)} {μ : mM} {np nr nl ns : Nat} {PA QA LA sh : Nat → Nat}
def lkP (μ : mM) (p q : Nat) : Int32 := lkV (A μ 23) (A μ 21) (A μ 22) p q (bnn (A μ 20) p) (bnn (A μ 20) q)
theorem C_lk {p q : Nat} (I : INV C μ np nr nl ns PA QA LA sh) (hp : p < np) (hq : q < np) : ∃ ν, m_D 40 [.ref 15, .ref (PA p), .ref (PA q)] μ = some (some (.int (lkP μ p q)), ν) ∧ K [16, 17] [] μ ν ∧ INV C ν np nr nl ns PA QA LA sh := by
  obtain ⟨ν, e, s⟩ := C_likeOf I.2.1.2.2.2.2.2.1 (I_pg I hp).2.2.2.2.2.2.2 (I_pg I hq).2.2.2.2.2.2.2 (I_pg I hp).2.2.2.2.2.2.1 (I_pg I hq).2.2.2.2.2.2.1
  exact ⟨ν, e, s, INV_K I s (by decide) (by decide)⟩
theorem E_lk {p q : Nat} (I : INV C μ np nr nl ns PA QA LA sh) (hp : p < np) (hq : q < np) : ∃ ν, m_D 159 [.ref 19, .int (nI p), .int (nI q)] μ = some (some (.int (lkP μ p q)), ν) ∧ SC [44, 45, 46, 47] [] μ ν ∧ INV C ν np nr nl ns PA QA LA sh := by
  obtain ⟨a1, a2, a3, a4, a5, _⟩ := I_pg I hp
  obtain ⟨b1, b2, b3, b4, b5, _⟩ := I_pg I hq
  obtain ⟨ν, e, s⟩ := E_likeOf (I_M I) a1 b1 a3 b3 a4 b4 a2 b2 a5
  exact ⟨ν, e, s, INV_SC I s (by decide) (by decide)⟩
theorem K_lkP {X : List Nat} {Y : List (Nat × Nat)} {μ ν : mM} (k : K X Y μ ν) (h : 20 ∉ X ∧ 21 ∉ X ∧ 22 ∉ X ∧ 23 ∉ X) (p q : Nat) : lkP ν p q = lkP μ p q := by
  unfold lkP
  rw [K_A k h.1, K_A k h.2.1, K_A k h.2.2.1, K_A k h.2.2.2]
theorem SC_lkP {X Y : List Nat} {μ ν : mM} (s : SC X Y μ ν) (h : 20 ∉ X ∧ 21 ∉ X ∧ 22 ∉ X ∧ 23 ∉ X) (p q : Nat) : lkP ν p q = lkP μ p q := by
  unfold lkP
  rw [SC_A s (by decide) h.1, SC_A s (by decide) h.2.1, SC_A s (by decide) h.2.2.1, SC_A s (by decide) h.2.2.2]
theorem call_like (x y : Int32) : CallOK C 86 160 [.int x, .int y] := by
  rintro μ ⟨np, nr, nl, ns, PA, QA, LA, sh, I⟩
  have hC := I_C I
  have hoC := CV_oc hC
  have hoM := oM_oc (I_M I)
  have hx' := I_isPage I x
  have hy' := I_isPage I y
  cases hx : inR x np with
  | false =>
    rw [hx] at hx'
    refine ⟨(-101), μ, μ, ?_, ?_, I_ok I⟩
    · cases hy : inR y np with
      | false => simp (disch := first | omega | decide | with_reducible assumption) only [D86, i86_0, i86_1, i86_2, i86_5, i86_5N, i86_6, i86_7, i86_8, i86_11, i86_11N, i86_13, i86_13N, i86_14, i86_14N, i86_17, i86_17N, i86_19, i86_19N, i86_22, i86_24, C_pageAtN I hx, C_pageAtN I hy, b_v_s, b_i_s, b_n_s, b_r_s, b_r_n, b_m_s, b_c_s, b_c_v]
      | true =>
        obtain ⟨p, hp, rfl⟩ := inR_nI hy
        simp (disch := first | omega | decide | with_reducible assumption) only [D86, i86_0, i86_1, i86_2, i86_5, i86_5N, i86_6, i86_7, i86_8, i86_11, i86_11N, i86_13, i86_13N, i86_14, i86_14N, i86_17, i86_17N, i86_19, i86_19N, i86_22, i86_24, C_pageAtN I hx, C_pageAt I hp, b_v_s, b_i_s, b_n_s, b_r_s, b_r_n, b_m_s, b_c_s, b_c_v]
    · simp (disch := first | omega | decide | with_reducible assumption) only [D160, i160_0, i160_1, i160_2, i160_5, i160_8, i160_9, i160_10, i160_13, i160_16, i160_17, i160_18, i160_19, i160_22, i160_25, i160_27, hx', bI_0, b_v_s, b_i_s, b_n_s, b_r_s, b_r_n, b_m_s, b_c_s, b_c_v, if_true]
  | true =>
    rw [hx] at hx'
    obtain ⟨p, hp, rfl⟩ := inR_nI hx
    cases hy : inR y np with
    | false =>
      rw [hy] at hy'
      refine ⟨(-101), μ, μ, ?_, ?_, I_ok I⟩
      · simp (disch := first | omega | decide | with_reducible assumption) only [D86, i86_0, i86_1, i86_2, i86_5, i86_5N, i86_6, i86_7, i86_8, i86_11, i86_11N, i86_13, i86_13N, i86_14, i86_14N, i86_17, i86_17N, i86_19, i86_19N, i86_22, i86_24, C_pageAt I hp, C_pageAtN I hy, b_v_s, b_i_s, b_n_s, b_r_s, b_r_n, b_m_s, b_c_s, b_c_v]
      · simp (disch := first | omega | decide | with_reducible assumption) only [D160, i160_0, i160_1, i160_2, i160_5, i160_8, i160_9, i160_10, i160_13, i160_16, i160_17, i160_18, i160_19, i160_22, i160_25, i160_27, hx', hy', bI_0, Bool.true_eq_false, b_v_s, b_i_s, b_n_s, b_r_s, b_r_n, b_m_s, b_c_s, b_c_v, if_true, if_false]
    | true =>
      obtain ⟨q, hq, rfl⟩ := inR_nI hy
      have hoP := PiV_oc I.2.1.2.2.2.2.2.1
      obtain ⟨ν, e, s, I2⟩ := C_lk I hp hq
      obtain ⟨ξ, e2, s2, I3⟩ := E_lk I2 hp hq
      rw [K_lkP s (by decide)] at e2
      have hx2 := I_isPage I2 (nI p)
      have hy2 := I_isPage I2 (nI q)
      have hoM2 := oM_oc (I_M I2)
      rw [hx] at hx2
      rw [hy] at hy2
      refine ⟨(lkP μ p q), ν, ξ, ?_, ?_, I_ok I3⟩
      · simp (disch := first | omega | decide | with_reducible assumption) only [D86, i86_0, i86_1, i86_2, i86_5, i86_5N, i86_6, i86_7, i86_8, i86_11, i86_11N, i86_13, i86_13N, i86_14, i86_14N, i86_17, i86_17N, i86_19, i86_19N, i86_22, i86_24, i86_25, i86_26, i86_29, i86_29N, i86_30, i86_30N, i86_32, i86_35, C_pageAt I hp, C_pageAt I hq, gC13 hC, e, b_v_s, b_i_s, b_n_s, b_r_s, b_r_n, b_m_s, b_c_s, b_c_v]
      · simp (disch := first | omega | decide | with_reducible assumption) only [D160, i160_0, i160_1, i160_2, i160_5, i160_8, i160_9, i160_10, i160_13, i160_16, i160_17, i160_18, i160_19, i160_22, i160_25, i160_27, hx2, hy2, bI_0, Bool.true_eq_false, e2, b_v_s, b_i_s, b_n_s, b_r_s, b_r_n, b_m_s, b_c_s, b_c_v, if_false]
/-- the nearest, as far as seen -/
def nrS (lk : Nat → Int32) (p : Nat) : Nat → Int32 × Int32
  | 0 => (-1, -1)
  | q + 1 => if q = p then nrS lk p q else if (nrS lk p q).2 < lk q then (nI q, lk q) else nrS lk p q
theorem nrS_st (lk : Nat → Int32) (p q : Nat) : nrS lk p (q + 1) = if q = p then nrS lk p q else if (nrS lk p q).2 < lk q then (nI q, lk q) else nrS lk p q := rfl
theorem nrS_ge (lk : Nat → Int32) (p q : Nat) : ¬ (nrS lk p q).2 < -1 := by
  induction q with
  | zero => show ¬ (-1 : Int32) < -1; decide
  | succ q ih =>
    rw [nrS_st]
    split
    · exact ih
    · split
      · rename_i h
        rw [Int32.lt_iff_toInt_lt] at *
        dsimp only
        omega
      · exact ih
set_option maxHeartbeats 1000000 in
theorem call_nearest (x : Int32) : CallOK C 87 161 [.int x] := by
  rintro μ ⟨np, nr, nl, ns, PA, QA, LA, sh, I⟩
  have hC := I_C I
  have hoC := CV_oc hC
  have hoM := oM_oc (I_M I)
  have h8 := I_np I
  have hx' := I_isPage I x
  cases hx : inR x np with
  | false =>
    rw [hx] at hx'
    refine ⟨(-101), μ, μ, ?_, ?_, I_ok I⟩
    · simp (disch := first | omega | decide | with_reducible assumption) only [D87, i87_0, i87_1, i87_2, i87_5, i87_5N, i87_6, i87_6N, i87_7, i87_7N, i87_10, i87_12, C_pageAtN I hx, b_v_s, b_i_s, b_n_s, b_r_s, b_r_n, b_m_s, b_c_s, b_c_v]
    · simp (disch := first | omega | decide | with_reducible assumption) only [D161, i161_0, i161_1, i161_2, i161_5, i161_8, i161_10, hx', bI_0, b_v_s, b_i_s, b_n_s, b_r_s, b_r_n, b_m_s, b_c_s, b_c_v, if_true]
  | true =>
    obtain ⟨p, hp, rfl⟩ := inR_nI hx
    obtain ⟨ν1, w1, e1, s1, I1⟩ := loop_inv (fun q ν (v : Value) => m_G 87 21 [.ref 0, .int (nI p), .ref (PA p), .int (nrS (lkP μ p) p q).1, .int (nrS (lkP μ p) p q).2, .int (nI q), v] [] ν) (fun q ν => K [16, 17] [] μ ν ∧ INV C ν np nr nl ns PA QA LA sh) np (fun q ν v hq P => by
      obtain ⟨s, J⟩ := P
      have hCν := I_C J
      have n3 : FI ν 0 3 = nI np := J.2.2.1.2.2.2.1
      rw [nrS_st]
      by_cases e : q = p
      · refine ⟨ν, v, ?_, s, J⟩
        rw [if_pos e]
        try dsimp only
        rw [i87_21]
        simp (disch := first | omega | decide | with_reducible assumption) only [i87_23, i87_24, i87_27, i87_30, i87_32, i87_33, i87_36, i87_37, i87_40, i87_40N, i87_41, i87_42, i87_45, i87_47, i87_48, i87_51, i87_53, i87_55, i87_57, i87_60, i87_62, i87_63, i87_65, i87_67, i87_70, gC3 hCν, n3, lt_t, eq_t, b_v_s, b_i_s, b_n_s, b_r_s, b_r_n, b_m_s, b_c_s, b_c_v, if_true, nI_add1]
      · have hoP := PiV_oc J.2.1.2.2.2.2.2.1
        have hg := pgr (I_V J) hq
        obtain ⟨ξ, e2, s2, J2⟩ := C_lk J hp hq
        rw [K_lkP s (by decide)] at e2
        rw [if_neg e]
        by_cases c : (nrS (lkP μ p) p q).2 < lkP μ p q
        · refine ⟨ξ, .int (lkP μ p q), ?_, s.tr s2, J2⟩
          rw [if_pos c]
          try dsimp only
          rw [i87_21]
          simp (disch := first | omega | decide | with_reducible assumption) only [i87_23, i87_24, i87_27, i87_30, i87_32, i87_33, i87_36, i87_37, i87_40, i87_40N, i87_41, i87_42, i87_45, i87_47, i87_48, i87_51, i87_53, i87_55, i87_57, i87_60, i87_62, i87_63, i87_65, i87_67, i87_70, gC3 hCν, gC2 hCν, gC13 hCν, n3, lt_t, eq_f, hg, e2, c, b_v_s, b_i_s, b_n_s, b_r_s, b_r_n, b_m_s, b_c_s, b_c_v, if_true, if_false, nI_add1]
        · refine ⟨ξ, .int (lkP μ p q), ?_, s.tr s2, J2⟩
          rw [if_neg c]
          try dsimp only
          rw [i87_21]
          simp (disch := first | omega | decide | with_reducible assumption) only [i87_23, i87_24, i87_27, i87_30, i87_32, i87_33, i87_36, i87_37, i87_40, i87_40N, i87_41, i87_42, i87_45, i87_47, i87_48, i87_51, i87_53, i87_55, i87_57, i87_60, i87_62, i87_63, i87_65, i87_67, i87_70, gC3 hCν, gC2 hCν, gC13 hCν, n3, lt_t, eq_f, hg, e2, c, b_v_s, b_i_s, b_n_s, b_r_s, b_r_n, b_m_s, b_c_s, b_c_v, if_true, if_false, nI_add1]) μ m_d ⟨K.rf μ, I⟩
    have hM1 := I_M I1
    have hx1 := I_isPage I1 (nI p)
    have ho1 := oM_oc hM1
    rw [hx] at hx1
    obtain ⟨ν2, w2, e2, s2, I2⟩ := loop_inv (fun q ν (v : Value) => m_G 161 18 [.ref 19, .int (nI p), .int (nrS (lkP μ p) p q).1, .int (nrS (lkP μ p) p q).2, .int (nI q), v] [] ν) (fun q ν => SC [44, 45, 46, 47] [] ν1 ν ∧ INV C ν np nr nl ns PA QA LA sh) np (fun q ν v hq P => by
      obtain ⟨s, J⟩ := P
      have hMν := I_M J
      have hoν := oM_oc hMν
      have n0' : FI ν 19 0 = nI np := J.2.2.1.1
      have hge := nrS_ge (lkP μ p) p q
      rw [nrS_st]
      by_cases e : q = p
      · refine ⟨ν, .int (-1), ?_, s, J⟩
        rw [if_pos e]
        try dsimp only
        rw [i161_18]
        simp (disch := first | omega | decide | with_reducible assumption) only [i161_20, i161_21, i161_24, i161_27, i161_29, i161_30, i161_33, i161_34, i161_37, i161_38, i161_39, i161_41, i161_44, i161_46, i161_48, i161_49, i161_52, i161_54, i161_57, i161_58, i161_59, i161_61, i161_62, i161_65, i161_67, i161_70, i161_71, i161_72, i161_75, gM0 hMν, n0', lt_t, eq_t, hge, b_v_s, b_i_s, b_n_s, b_r_s, b_r_n, b_m_s, b_c_s, b_c_v, if_true, if_false, nI_add1]
      · obtain ⟨ξ, e2, s2, J2⟩ := E_lk J hp hq
        rw [SC_lkP s (by decide), K_lkP s1 (by decide)] at e2
        rw [if_neg e]
        by_cases c : (nrS (lkP μ p) p q).2 < lkP μ p q
        · refine ⟨ξ, .int (lkP μ p q), ?_, s.tr s2, J2⟩
          rw [if_pos c]
          try dsimp only
          rw [i161_18]
          simp (disch := first | omega | decide | with_reducible assumption) only [i161_20, i161_21, i161_24, i161_27, i161_29, i161_30, i161_33, i161_34, i161_37, i161_38, i161_39, i161_41, i161_44, i161_46, i161_48, i161_49, i161_52, i161_54, i161_57, i161_58, i161_59, i161_61, i161_62, i161_65, i161_67, i161_70, i161_71, i161_72, i161_75, gM0 hMν, n0', lt_t, eq_f, e2, c, b_v_s, b_i_s, b_n_s, b_r_s, b_r_n, b_m_s, b_c_s, b_c_v, if_true, if_false, nI_add1]
        · refine ⟨ξ, .int (lkP μ p q), ?_, s.tr s2, J2⟩
          rw [if_neg c]
          try dsimp only
          rw [i161_18]
          simp (disch := first | omega | decide | with_reducible assumption) only [i161_20, i161_21, i161_24, i161_27, i161_29, i161_30, i161_33, i161_34, i161_37, i161_38, i161_39, i161_41, i161_44, i161_46, i161_48, i161_49, i161_52, i161_54, i161_57, i161_58, i161_59, i161_61, i161_62, i161_65, i161_67, i161_70, i161_71, i161_72, i161_75, gM0 hMν, n0', lt_t, eq_f, e2, c, b_v_s, b_i_s, b_n_s, b_r_s, b_r_n, b_m_s, b_c_s, b_c_v, if_true, if_false, nI_add1]) ν1 m_d ⟨SC.rf hM1, I1⟩
    have hM2 := I_M I2
    have m0 : FI ν2 19 0 = nI np := I2.2.2.1.1
    have c3 : FI ν1 0 3 = nI np := I1.2.2.1.2.2.2.1
    refine ⟨(nrS (lkP μ p) p np).1, ν1, ν2, ?_, ?_, I_ok I2⟩
    · simp (disch := first | omega | decide | with_reducible assumption) only [D87, i87_0, i87_1, i87_2, i87_5, i87_5N, i87_6, i87_6N, i87_7, i87_7N, i87_10, i87_12, i87_13, i87_14, i87_15, i87_16, i87_18, i87_19, C_pageAt I hp, b_v_s, b_i_s, b_n_s, b_r_s, b_r_n, b_m_s, b_c_s, b_c_v]
      refine (show _ = _ from e1).trans ?_
      try dsimp only
      rw [i87_21]
      simp (disch := first | omega | decide | with_reducible assumption) only [i87_23, i87_24, i87_27, i87_73, i87_74, gC3 (I_C I1), c3, lt_f, b_v_s, b_i_s, b_n_s, b_r_s, b_r_n, b_m_s, b_c_s, b_c_v, if_false]
    · simp (disch := first | omega | decide | with_reducible assumption) only [D161, i161_0, i161_1, i161_2, i161_5, i161_8, i161_10, i161_11, i161_12, i161_13, i161_14, i161_15, i161_16, hx1, bI_0, Bool.true_eq_false, b_v_s, b_i_s, b_n_s, b_r_s, b_r_n, b_m_s, b_c_s, b_c_v, if_false]
      refine (show _ = _ from e2).trans ?_
      try dsimp only
      rw [i161_18]
      simp (disch := first | omega | decide | with_reducible assumption) only [i161_20, i161_21, i161_24, i161_78, i161_79, gM0 hM2, m0, lt_f, b_v_s, b_i_s, b_n_s, b_r_s, b_r_n, b_m_s, b_c_s, b_c_v, if_false]
/-- counts over pages -/
def cS (f : Nat → Int32) : Nat → Int32
  | 0 => 0
  | p + 1 => cS f p + f p
def cPg (μ : mM) (w : Int32) (p : Nat) : Int32 := if w = 4 then nI (cnt (bt (mks (A μ 20) (A μ 24) p 1)) 24) else if w = 5 then nI (cnt (bt (mks (A μ 20) (A μ 24) p 2)) 24) else nI (bnn (A μ 20) p)
def cntV (μ : mM) (np nr nl ns : Nat) (w : Int32) : Int32 := if w = 0 then nI np else if w = 1 then nI nr else if w = 2 then nI nl else if w = 3 then nI ns else if w = 4 ∨ w = 5 ∨ w = 6 then cS (cPg μ w) np else -102
theorem cS_st (f : Nat → Int32) (p : Nat) : cS f (p + 1) = cS f p + f p := rfl
theorem E_countOf (I : INV C μ np nr nl ns PA QA LA sh) (w : Int32) : m_D 165 [.ref 19, .int w] μ = some (some (.int (cntV μ np nr nl ns w)), μ) := by
  have hM := I_M I
  have hoM := oM_oc hM
  have h8 := I_np I
  have m0 : FI μ 19 0 = nI np := I.2.2.1.1
  have L := loop1 (fun p => m_G 165 4 [.ref 19, .int w, .int (cS (cPg μ w) p), .int (nI p)] [] μ) np (fun p hp => by
    try dsimp only
    obtain ⟨a1, a2, a3, a4, a5, _⟩ := I_pg I hp
    have y1 := E_marked (as := 1) hM a1 a4 a2
    have y2 := E_marked (as := 2) hM a1 a4 a2
    rw [i165_4, cS_st]
    unfold cPg
    by_cases c4 : w = 4
    · rw [if_pos c4]
      simp (disch := first | omega | decide | with_reducible assumption) only [i165_5, i165_6, i165_9, i165_12, i165_13, i165_14, i165_15, i165_18, i165_19, i165_20, i165_21, i165_24, i165_27, i165_30, i165_31, i165_32, i165_35, i165_36, i165_37, i165_38, i165_41, i165_44, i165_47, i165_48, i165_51, i165_52, i165_53, i165_54, i165_55, i165_58, gM0 hM, m0, lt_t, c4, y1, E_bitsOf, b_v_s, b_i_s, b_n_s, b_r_s, b_r_n, b_m_s, b_c_s, b_c_v, if_true, nI_add1]
      rfl
    · rw [if_neg c4]
      by_cases c5 : w = 5
      · have c54 : ((5 : Int32) = 4) = False := eq_false (by decide)
        rw [if_pos c5]
        simp (disch := first | omega | decide | with_reducible assumption) only [i165_5, i165_6, i165_9, i165_12, i165_13, i165_14, i165_15, i165_18, i165_19, i165_20, i165_21, i165_24, i165_27, i165_30, i165_31, i165_32, i165_35, i165_36, i165_37, i165_38, i165_41, i165_44, i165_47, i165_48, i165_51, i165_52, i165_53, i165_54, i165_55, i165_58, gM0 hM, m0, lt_t, c54, c5, y2, E_bitsOf, b_v_s, b_i_s, b_n_s, b_r_s, b_r_n, b_m_s, b_c_s, b_c_v, if_true, if_false, nI_add1]
        rfl
      · rw [if_neg c5]
        simp (disch := first | omega | decide | with_reducible assumption) only [i165_5, i165_6, i165_9, i165_12, i165_13, i165_14, i165_15, i165_18, i165_19, i165_20, i165_21, i165_24, i165_27, i165_30, i165_31, i165_32, i165_35, i165_36, i165_37, i165_38, i165_41, i165_44, i165_47, i165_48, i165_51, i165_52, i165_53, i165_54, i165_55, i165_58, gM0 hM, m0, lt_t, c4, c5, gM1 hM, ga_A (aM20 hM), b_v_s, b_i_s, b_n_s, b_r_s, b_r_n, b_m_s, b_c_s, b_c_v, if_true, if_false, nI_add1]
        rw [← a2])
  simp (disch := first | omega | decide | with_reducible assumption) only [D165, i165_0, i165_1, i165_2, i165_3]
  refine (show _ = _ from L).trans ?_
  try dsimp only
  rw [i165_4]
  simp (disch := first | omega | decide | with_reducible assumption) only [i165_5, i165_6, i165_9, i165_61, gM0 hM, m0, lt_f, b_v_s, b_i_s, b_n_s, b_r_s, b_r_n, b_m_s, b_c_s, b_c_v, if_false]
  unfold cntV
  cases hw : inR w 7 with
  | false =>
    have hd : w.toInt < 0 ∨ 6 < w.toInt := by
      unfold inR at hw
      rw [decide_eq_false_iff_not] at hw
      omega
    have ne : ∀ k, k < 7 → ¬ w = nI k := fun k hk e => by
      rw [e, nI_toInt (by omega)] at hd
      omega
    rw [if_neg (show ¬ w = 0 from ne 0 (by decide)), if_neg (show ¬ w = 1 from ne 1 (by decide)), if_neg (show ¬ w = 2 from ne 2 (by decide)), if_neg (show ¬ w = 3 from ne 3 (by decide)), if_neg (fun z => z.elim (ne 4 (by decide)) (fun z => z.elim (ne 5 (by decide)) (ne 6 (by decide)))), i165_62_d hd]
    simp (disch := first | omega | decide | with_reducible assumption) only [i165_126, i165_128]
  | true =>
    have m17 : FI μ 19 17 = nI nr := I.2.2.1.2.1
    have m27 : FI μ 19 27 = nI nl := I.2.2.1.2.2.1
    have m8 : FI μ 19 8 = nI ns := I.2.2.2.1.2.2.1
    obtain ⟨t, ht, rfl⟩ := inR_nI hw
    rcases (show t = 0 ∨ t = 1 ∨ t = 2 ∨ t = 3 ∨ t = 4 ∨ t = 5 ∨ t = 6 by omega) with rfl | rfl | rfl | rfl | rfl | rfl | rfl
    · rw [if_pos (by decide), show nI 0 = 0 from rfl]
      simp (disch := first | omega | decide | with_reducible assumption) only [i165_62_0, i165_104, i165_105, i165_108, gM0 hM, m0, b_v_s, b_i_s, b_n_s, b_r_s, b_r_n, b_m_s, b_c_s, b_c_v]
    · rw [if_neg (by decide), if_pos (by decide), show nI 1 = 1 from rfl]
      simp (disch := first | omega | decide | with_reducible assumption) only [i165_62_1, i165_109, i165_110, i165_113, gM17 hM, m17, b_v_s, b_i_s, b_n_s, b_r_s, b_r_n, b_m_s, b_c_s, b_c_v]
    · rw [if_neg (by decide), if_neg (by decide), if_pos (by decide), show nI 2 = 2 from rfl]
      simp (disch := first | omega | decide | with_reducible assumption) only [i165_62_2, i165_114, i165_115, i165_118, gM27 hM, m27, b_v_s, b_i_s, b_n_s, b_r_s, b_r_n, b_m_s, b_c_s, b_c_v]
    · rw [if_neg (by decide), if_neg (by decide), if_neg (by decide), if_pos (by decide), show nI 3 = 3 from rfl]
      simp (disch := first | omega | decide | with_reducible assumption) only [i165_62_3, i165_119, i165_120, i165_123, gM8 hM, m8, b_v_s, b_i_s, b_n_s, b_r_s, b_r_n, b_m_s, b_c_s, b_c_v]
    · rw [if_neg (by decide), if_neg (by decide), if_neg (by decide), if_neg (by decide), if_pos (by decide), show nI 4 = 4 from rfl]
      simp (disch := first | omega | decide | with_reducible assumption) only [i165_62_4, i165_124, i165_125]
    · rw [if_neg (by decide), if_neg (by decide), if_neg (by decide), if_neg (by decide), if_pos (by decide), show nI 5 = 5 from rfl]
      simp (disch := first | omega | decide | with_reducible assumption) only [i165_62_5, i165_124, i165_125]
    · rw [if_neg (by decide), if_neg (by decide), if_neg (by decide), if_neg (by decide), if_pos (by decide), show nI 6 = 6 from rfl]
      simp (disch := first | omega | decide | with_reducible assumption) only [i165_62_6, i165_124, i165_125]
theorem C_countOnPages (I : INV C μ np nr nl ns PA QA LA sh) (w : Int32) : m_D 93 [.ref 0, .int w] μ = some (some (.int (cS (cPg μ w) np)), μ) := by
  have hC := I_C I
  have h8 := I_np I
  have c3 : FI μ 0 3 = nI np := I.2.2.1.2.2.2.1
  have L := loop_b (fun p (v : Value) => m_G 93 4 [.ref 0, .int w, .int (cS (cPg μ w) p), .int (nI p), v] [] μ) np (some (some (.int (cS (cPg μ w) np)), μ)) (fun v => by
    try dsimp only
    generalize cS (cPg μ w) np = R
    rw [i93_4]
    simp (disch := first | omega | decide | with_reducible assumption) only [i93_5, i93_6, i93_9, i93_66, i93_67, gC3 hC, c3, lt_f, b_v_s, b_i_s, b_n_s, b_r_s, b_r_n, b_m_s, b_c_s, b_c_v, if_false]) (fun p v hp => ⟨.ref (PA p), by
    try dsimp only
    obtain ⟨_, h2, h3, _⟩ := (I_V I).2.2 p hp
    have hg := pgr (I_V I) hp
    have hn := PV_n h2
    have e1 := C_bc (μ := μ) (s := FI μ (PA p) 11) (by rw [h3.1]; exact mk_lt hn)
    have e2 := C_bc (μ := μ) (s := FI μ (PA p) 12) (by rw [h3.2.1]; exact mk_lt hn)
    have e1' : FI μ (PA p) 11 = mks (A μ 20) (A μ 24) p 1 := h3.1
    have e2' : FI μ (PA p) 12 = mks (A μ 20) (A μ 24) p 2 := h3.2.1
    rw [i93_4, cS_st]
    unfold cPg
    by_cases c4 : w = 4
    · rw [if_pos c4, ← e1']
      simp (disch := first | omega | decide | with_reducible assumption) only [i93_5, i93_6, i93_9, i93_12, i93_13, i93_16, i93_17, i93_18, i93_20, i93_21, i93_22, i93_23, i93_26, i93_28, i93_31, i93_34, i93_37, i93_38, i93_39, i93_42, i93_44, i93_47, i93_50, i93_53, i93_55, i93_58, i93_59, i93_60, i93_63, gC3 hC, gC2 hC, c3, lt_t, c4, hg, P_fyes h2, e1, b_v_s, b_i_s, b_n_s, b_r_s, b_r_n, b_m_s, b_c_s, b_c_v, if_true, nI_add1]
    · rw [if_neg c4]
      by_cases c5 : w = 5
      · have c54 : ((5 : Int32) = 4) = False := eq_false (by decide)
        rw [if_pos c5, ← e2']
        simp (disch := first | omega | decide | with_reducible assumption) only [i93_5, i93_6, i93_9, i93_12, i93_13, i93_16, i93_17, i93_18, i93_20, i93_21, i93_22, i93_23, i93_26, i93_28, i93_31, i93_34, i93_37, i93_38, i93_39, i93_42, i93_44, i93_47, i93_50, i93_53, i93_55, i93_58, i93_59, i93_60, i93_63, gC3 hC, gC2 hC, c3, lt_t, c54, c5, hg, P_fno h2, e2, b_v_s, b_i_s, b_n_s, b_r_s, b_r_n, b_m_s, b_c_s, b_c_v, if_true, if_false, nI_add1]
      · rw [if_neg c5]
        simp (disch := first | omega | decide | with_reducible assumption) only [i93_5, i93_6, i93_9, i93_12, i93_13, i93_16, i93_17, i93_18, i93_20, i93_21, i93_22, i93_23, i93_26, i93_28, i93_31, i93_34, i93_37, i93_38, i93_39, i93_42, i93_44, i93_47, i93_50, i93_53, i93_55, i93_58, i93_59, i93_60, i93_63, gC3 hC, gC2 hC, c3, lt_t, c4, c5, hg, P_size h2, b_v_s, b_i_s, b_n_s, b_r_s, b_r_n, b_m_s, b_c_s, b_c_v, if_true, if_false, nI_add1]⟩)
  simp (disch := first | omega | decide | with_reducible assumption) only [D93, i93_0, i93_1, i93_2, i93_3]
  exact L m_d
theorem C_count (I : INV C μ np nr nl ns PA QA LA sh) (w : Int32) : m_D 92 [.ref 0, .int w] μ = some (some (.int (cntV μ np nr nl ns w)), μ) := by
  have hC := I_C I
  have hoC := CV_oc hC
  have hcp := C_countOnPages I w
  unfold cntV
  cases hw : inR w 7 with
  | false =>
    have hd : w.toInt < 0 ∨ 6 < w.toInt := by
      unfold inR at hw
      rw [decide_eq_false_iff_not] at hw
      omega
    have ne : ∀ k, k < 7 → ¬ w = nI k := fun k hk e => by
      rw [e, nI_toInt (by omega)] at hd
      omega
    rw [if_neg (show ¬ w = 0 from ne 0 (by decide)), if_neg (show ¬ w = 1 from ne 1 (by decide)), if_neg (show ¬ w = 2 from ne 2 (by decide)), if_neg (show ¬ w = 3 from ne 3 (by decide)), if_neg (fun z => z.elim (ne 4 (by decide)) (fun z => z.elim (ne 5 (by decide)) (ne 6 (by decide)))), D92, i92_0, i92_1_d hd]
    simp (disch := first | omega | decide | with_reducible assumption) only [i92_70, i92_72]
  | true =>
    have m0 : FI μ 0 3 = nI np := I.2.2.1.2.2.2.1
    have m17 : FI μ 0 5 = nI nr := I.2.2.1.2.2.2.2.1
    have m27 : FI μ 0 7 = nI nl := I.2.2.1.2.2.2.2.2
    have m8 : FI μ 0 1 = nI ns := I.2.2.2.1.1.2.1
    obtain ⟨t, ht, rfl⟩ := inR_nI hw
    rcases (show t = 0 ∨ t = 1 ∨ t = 2 ∨ t = 3 ∨ t = 4 ∨ t = 5 ∨ t = 6 by omega) with rfl | rfl | rfl | rfl | rfl | rfl | rfl
    · rw [if_pos (by decide), show nI 0 = 0 from rfl]
      simp (disch := first | omega | decide | with_reducible assumption) only [D92, i92_0, i92_1_0, i92_44, i92_45, i92_48, gC3 hC, m0, b_v_s, b_i_s, b_n_s, b_r_s, b_r_n, b_m_s, b_c_s, b_c_v]
    · rw [if_neg (by decide), if_pos (by decide), show nI 1 = 1 from rfl]
      simp (disch := first | omega | decide | with_reducible assumption) only [D92, i92_0, i92_1_1, i92_49, i92_50, i92_53, gC5 hC, m17, b_v_s, b_i_s, b_n_s, b_r_s, b_r_n, b_m_s, b_c_s, b_c_v]
    · rw [if_neg (by decide), if_neg (by decide), if_pos (by decide), show nI 2 = 2 from rfl]
      simp (disch := first | omega | decide | with_reducible assumption) only [D92, i92_0, i92_1_2, i92_54, i92_55, i92_58, gC7 hC, m27, b_v_s, b_i_s, b_n_s, b_r_s, b_r_n, b_m_s, b_c_s, b_c_v]
    · rw [if_neg (by decide), if_neg (by decide), if_neg (by decide), if_pos (by decide), show nI 3 = 3 from rfl]
      simp (disch := first | omega | decide | with_reducible assumption) only [D92, i92_0, i92_1_3, i92_59, i92_60, i92_63, gC1 hC, m8, b_v_s, b_i_s, b_n_s, b_r_s, b_r_n, b_m_s, b_c_s, b_c_v]
    · rw [if_neg (by decide), if_neg (by decide), if_neg (by decide), if_neg (by decide), if_pos (by decide)]
      rw [show nI 4 = 4 from rfl] at hcp ⊢
      simp (disch := first | omega | decide | with_reducible assumption) only [D92, i92_0, i92_1_4, i92_64, i92_65, i92_66, i92_69, hcp, b_v_s, b_i_s, b_n_s, b_r_s, b_r_n, b_m_s, b_c_s, b_c_v]
    · rw [if_neg (by decide), if_neg (by decide), if_neg (by decide), if_neg (by decide), if_pos (by decide)]
      rw [show nI 5 = 5 from rfl] at hcp ⊢
      simp (disch := first | omega | decide | with_reducible assumption) only [D92, i92_0, i92_1_5, i92_64, i92_65, i92_66, i92_69, hcp, b_v_s, b_i_s, b_n_s, b_r_s, b_r_n, b_m_s, b_c_s, b_c_v]
    · rw [if_neg (by decide), if_neg (by decide), if_neg (by decide), if_neg (by decide), if_pos (by decide)]
      rw [show nI 6 = 6 from rfl] at hcp ⊢
      simp (disch := first | omega | decide | with_reducible assumption) only [D92, i92_0, i92_1_6, i92_64, i92_65, i92_66, i92_69, hcp, b_v_s, b_i_s, b_n_s, b_r_s, b_r_n, b_m_s, b_c_s, b_c_v]
theorem call_count (w : Int32) : CallOK C 92 166 [.int w] := by
  rintro μ ⟨np, nr, nl, ns, PA, QA, LA, sh, I⟩
  have hoM := oM_oc (I_M I)
  have hm := E_countOf I w
  refine ⟨(cntV μ np nr nl ns w), μ, μ, C_count I w, ?_, I_ok I⟩
  simp (disch := first | omega | decide | with_reducible assumption) only [D166, i166_0, i166_1, i166_2, i166_5, hm, b_v_s, b_i_s, b_n_s, b_r_s, b_r_n, b_m_s, b_c_s, b_c_v]
theorem call_blank : CallOK C 60 108 [] := by
  rintro μ ⟨np, nr, nl, ns, PA, QA, LA, sh, I⟩
  have hC := I_C I
  have c1 : FI μ 0 1 = nI ns := I.2.2.2.1.1.2.1
  have cs1 : K [] [(0, 1)] μ (wO μ 0 1 (.int (0))) := K_wO (k := 1) (CV_o hC) rfl _ (by simp)
  have cp1 := pO (k := 1) (CV_o hC) rfl (0)
  have cr1 := wO_FIo (k := 1) (CV_o hC) rfl (0)
  have cu1 := wO_A (CV_o hC) 1 (.int (0))
  generalize wO μ 0 1 (.int (0)) = cm1 at cs1 cp1 cr1 cu1
  have cV1 := CV_K hC cs1
  have hM := MS_K (I_M I) cs1
  have m8 : FI cm1 19 8 = nI ns := by rw [K_FI cs1 (by simp)]; exact I.2.2.2.1.2.2.1
  have ds1 : K [] [(19, 8)] cm1 (wO cm1 19 8 (.int (0))) := K_wO (k := 8) (MS_O hM) rfl _ (by simp)
  have dp1 := pO (k := 8) (MS_O hM) rfl (0)
  have dr1 := wO_FIo (k := 8) (MS_O hM) rfl (0)
  have du1 := wO_A (MS_O hM) 8 (.int (0))
  generalize wO cm1 19 8 (.int (0)) = dm1 at ds1 dp1 dr1 du1
  have dV1 := MS_K hM ds1
  have k : K [] [(0, 1), (19, 8)] μ dm1 := (cs1.mono (by simp) (by simp)).tr (ds1.mono (by simp) (by simp))
  refine ⟨(nI ns), cm1, dm1, ?_, ?_, I_ok (INV_K2 (ns' := 0) (sh' := sh) I k (by simp) (by decide) ⟨⟨by decide, ?_, fun i q => absurd q (Nat.not_lt_zero i), fun i q => absurd q (Nat.not_lt_zero i)⟩, ⟨by decide, ?_, fun i q => absurd q (Nat.not_lt_zero i), fun i q => absurd q (Nat.not_lt_zero i)⟩⟩)⟩
  · simp only [D60, i60_0, i60_1, i60_4, i60_5, i60_6, i60_7, i60_10, i60_11, gC1 hC, c1, cp1, b_v_s, b_i_s, b_n_s, b_r_s, b_r_n, b_m_s, b_c_s, b_c_v]
  · simp only [D108, i108_0, i108_1, i108_4, i108_5, i108_6, i108_7, i108_10, i108_11, gM8 hM, m8, dp1, b_v_s, b_i_s, b_n_s, b_r_s, b_r_n, b_m_s, b_c_s, b_c_v]
  · rw [dr1, if_neg (by decide), cr1, if_pos ⟨rfl, rfl⟩]; rfl
  · rw [dr1, if_pos ⟨rfl, rfl⟩]; rfl
theorem call_fault (x : Int32) : CallOK C 61 114 [.int x] := by
  rintro μ ⟨np, nr, nl, ns, PA, QA, LA, sh, I⟩
  have hC := I_C I
  have hoC := CV_oc hC
  have i1 : ∀ ν : mM, m_D 102 [.long x.toInt64, .long 0, .long 1] ν = some (some (.int (bI (inR x 2))), ν) := fun ν => in_R (k := 1) (by decide)
  cases hx : inR x 2 with
  | false =>
    rw [hx] at i1
    have ne : ∀ k, k < 2 → ¬ x = nI k := fun k hk e => by rw [e, inR_of hk (by decide)] at hx; cases hx
    have n0' : ¬ x = 0 := ne 0 (by decide)
    have n1' : ¬ x = 1 := ne 1 (by decide)
    refine ⟨(-102), μ, μ, ?_, ?_, I_ok I⟩
    · simp (disch := first | omega | decide | with_reducible assumption) only [D61, i61_0, i61_1, i61_4, i61_5, i61_6, i61_9, i61_12, i61_13, i61_14, i61_15, i61_18, i61_19, i61_20, i61_23, i61_26, i61_27, i61_29, n0', n1', if_false]
    · simp (disch := first | omega | decide | with_reducible assumption) only [D114, i114_0, i114_1, i114_2, i114_3, i114_4, i114_7, i114_10, i114_11, i114_12, i114_15, i114_18, i114_20, i1 μ, bI_0, b_v_s, b_i_s, b_n_s, b_r_s, b_r_n, b_m_s, b_c_s, b_c_v, if_true]
  | true =>
    rw [hx] at i1
    obtain ⟨t, ht, rfl⟩ := inR_nI hx
    rcases (show t = 0 ∨ t = 1 by omega) with rfl | rfl
    · obtain ⟨ν, e, s, _⟩ := C_readP hC I.2.1.2.1 I.2.2.2.1.1
      have J := INV_K I s (by decide) (by decide)
      obtain ⟨ξ, e2, s2, _⟩ := E_faultP (I_M J) J.2.2.2.1.2
      have ho := oM_oc (I_M J)
      have i1' := i1 ν
      rw [show nI 0 = 0 from rfl] at i1' ⊢
      refine ⟨(nI (flP sh ns 0 iniP).1), ν, ξ, ?_, ?_, I_ok (INV_K J s2 (by decide) (by decide))⟩
      · simp (disch := first | omega | decide | with_reducible assumption) only [D61, i61_0, i61_1, i61_4, i61_5, i61_6, i61_9, i61_12, gC8 hC, e, b_v_s, b_i_s, b_n_s, b_r_s, b_r_n, b_m_s, b_c_s, b_c_v, if_true]
      · simp (disch := first | omega | decide | with_reducible assumption) only [D114, i114_0, i114_1, i114_2, i114_3, i114_4, i114_7, i114_10, i114_11, i114_12, i114_15, i114_18, i114_20, i1', bI_0, Bool.true_eq_false, e2, b_v_s, b_i_s, b_n_s, b_r_s, b_r_n, b_m_s, b_c_s, b_c_v, if_false]
    · obtain ⟨ν, e, s, _⟩ := C_readR hC I.2.1.2.2.1 I.2.2.2.1.1
      have J := INV_K I s (by decide) (by decide)
      obtain ⟨ξ, e2, s2, _⟩ := E_faultR (I_M J) J.2.2.2.1.2
      have ho := oM_oc (I_M J)
      have i1' := i1 ν
      rw [show nI 1 = 1 from rfl] at i1' ⊢
      refine ⟨(nI (flR sh ns 0 iniR).1), ν, ξ, ?_, ?_, I_ok (INV_K J s2 (by decide) (by decide))⟩
      · simp (disch := first | omega | decide | with_reducible assumption) only [D61, i61_0, i61_1, i61_4, i61_5, i61_6, i61_9, i61_12, i61_13, i61_14, i61_15, i61_18, i61_19, i61_20, i61_23, i61_26, gC9 hC, ne10, e, b_v_s, b_i_s, b_n_s, b_r_s, b_r_n, b_m_s, b_c_s, b_c_v, if_true, if_false]
      · simp (disch := first | omega | decide | with_reducible assumption) only [D114, i114_0, i114_1, i114_2, i114_3, i114_4, i114_7, i114_10, i114_11, i114_12, i114_15, i114_18, i114_20, i1', bI_0, Bool.true_eq_false, e2, b_v_s, b_i_s, b_n_s, b_r_s, b_r_n, b_m_s, b_c_s, b_c_v, if_false]
end calls3
