/-! a law holds on a page -/
def inL (v lo hi : Int32) : Bool := decide (lo.toInt64.toInt ≤ v.toInt64.toInt) && decide (v.toInt64.toInt ≤ hi.toInt64.toInt)
def alB (P : Nat → Bool) : Nat → Bool
  | 0 => true
  | w + 1 => alB P w && P w
def lwP (q : Nat) (o : Nat → Nat) (X Y : Int32) (w : Nat) : Bool := if q = 1 then (decide (o w = 0) || inL (nI w) X Y) else decide (o w < 2)
def shP (μ : mM) (r p m n : Nat) (x : Int32) : Bool := shr x (cnt (fun w => hbf μ r p m w && hbf μ r (p + 1) n w) 100) (cnt (hbf μ r p m) 100)
def hlw (μ : mM) (l r p m n q : Nat) : Bool :=
  if q = 0 then inL (nI (cnt (bt (giv μ r p n 1)) 24)) (A μ 40 l) (A μ 41 l)
  else if q = 3 then (decide (p = 0) || shP μ r (p - 1) m n (A μ 40 l))
  else alB (lwP q (oft (A μ 22) p (giv μ r p n 1) n) (A μ 40 l) (A μ 41 l)) 100
theorem n3' : (3 : Int32) = nI 3 := rfl
theorem n2' : (2 : Int32) = nI 2 := rfl
theorem n1' : (1 : Int32) = nI 1 := rfl
theorem alB_st (P : Nat → Bool) (w : Nat) : alB P (w + 1) = (alB P w && P w) := rfl
section hlaw
variable {μ : mM}
set_option maxHeartbeats 2000000 in
theorem E_holdsLaw {l r p m n q : Nat} (h : MS μ) (hl : l < 8) (hr : r < 10) (hp : p < 8) (hn : n ≤ 24) (hq : q ≤ 3) (hf : A μ 39 l = nI q) (hb : A μ 20 p = nI n) (hw : WW (A μ 22) p n) (hP : PW (A μ 23) p n) (hR : RO μ r) (hm : 0 < p → m ≤ 24 ∧ A μ 20 (p - 1) = nI m ∧ WW (A μ 22) (p - 1) m ∧ PW (A μ 23) (p - 1) m) : ∃ ν, m_D 151 [.ref 19, .int (nI l), .int (nI r), .int (nI p)] μ = some (some (.int (bI (hlw μ l r p m n q))), ν) ∧ SC [42, 43] [] μ ν := by
  have ho := oM_oc h
  have hg := E_given h hr hp hn hb hP hR
  by_cases q0 : q = 0
  · refine ⟨μ, ?_, SC.rf h⟩
    subst q0
    unfold hlw
    rw [if_pos rfl]
    unfold inL
    simp (disch := first | omega | assumption | exact bI_and _) only [D151, i151_0, i151_1, i151_2, i151_3, i151_6, i151_8, i151_9, i151_12, i151_13, i151_14, i151_17, i151_19, i151_22, i151_23, i151_24, i151_27, i151_28, i151_29, i151_30, i151_31, i151_34, i151_35, i151_36, i151_37, i151_40, b_v_s, b_i_s, b_n_s, b_r_s, b_r_n, b_m_s, b_c_s, b_c_v, hg, gM28 h, ga_A (aM39 h), gM29 h, ga_A (aM40 h), gM30 h, ga_A (aM41 h), hf, nI_is0, E_bitsOf, E_in, if_true]
  by_cases q3 : q = 3
  · subst q3
    unfold hlw
    rw [if_neg q0, if_pos rfl]
    by_cases p0 : p = 0
    · subst p0
      refine ⟨μ, ?_, SC.rf h⟩
      rw [show (decide ((0 : Nat) = 0) || shP μ r (0 - 1) m n (A μ 40 l)) = true from rfl, bI_t]
      simp (disch := first | omega | assumption | decide) only [D151, i151_0, i151_1, i151_2, i151_3, i151_6, i151_8, i151_9, i151_12, i151_13, i151_14, i151_41, i151_42, i151_45, i151_46, i151_47, i151_48, i151_51, i151_52, i151_55, i151_56, i151_57, i151_60, i151_61, i151_62, i151_63, i151_64, i151_67, i151_70, i151_71, i151_74, i151_75, b_v_s, b_i_s, b_n_s, b_r_s, b_r_n, b_m_s, b_c_s, b_c_v, hg, gM28 h, ga_A (aM39 h), gM29 h, ga_A (aM40 h), hf, nI_is0, n3', q0, if_true, if_false, ne_eq, not_true_eq_false, not_false_eq_true]
    · obtain ⟨p', rfl⟩ : ∃ p', p = p' + 1 := ⟨p - 1, by omega⟩
      obtain ⟨hm1, hm2, hm3, hm4⟩ := hm (by omega)
      rw [Nat.add_sub_cancel] at hm2 hm3 hm4
      obtain ⟨ν, e, s⟩ := E_hab (x := A μ 40 l) h hr hp hm1 hn hm2 hb hm3 hw hm4 hP hR
      change m_D _ _ _ = some (some (.int (bI (shP μ r p' m n (A μ 40 l)))), ν) at e
      refine ⟨ν, ?_, s⟩
      rw [show (decide (p' + 1 = 0) || shP μ r (p' + 1 - 1) m n (A μ 40 l)) = shP μ r p' m n (A μ 40 l) from rfl]
      cases hS : shP μ r p' m n (A μ 40 l) with
      | false =>
        rw [hS] at e
        rw [bI_f] at e ⊢
        simp (disch := first | omega | assumption | decide) only [D151, i151_0, i151_1, i151_2, i151_3, i151_6, i151_8, i151_9, i151_12, i151_13, i151_14, i151_41, i151_42, i151_45, i151_46, i151_47, i151_48, i151_51, i151_52, i151_55, i151_56, i151_57, i151_60, i151_61, i151_62, i151_63, i151_64, i151_67, i151_70, i151_71, i151_74, i151_75, b_v_s, b_i_s, b_n_s, b_r_s, b_r_n, b_m_s, b_c_s, b_c_v, hg, gM28 h, ga_A (aM39 h), gM29 h, ga_A (aM40 h), hf, nI_is0, n3', q0, p0, e, if_true, if_false, ne_eq, not_true_eq_false, not_false_eq_true]
      | true =>
        rw [hS] at e
        rw [bI_t] at e ⊢
        simp (disch := first | omega | assumption | decide) only [D151, i151_0, i151_1, i151_2, i151_3, i151_6, i151_8, i151_9, i151_12, i151_13, i151_14, i151_41, i151_42, i151_45, i151_46, i151_47, i151_48, i151_51, i151_52, i151_55, i151_56, i151_57, i151_60, i151_61, i151_62, i151_63, i151_64, i151_67, i151_70, i151_71, i151_74, i151_75, b_v_s, b_i_s, b_n_s, b_r_s, b_r_n, b_m_s, b_c_s, b_c_v, hg, gM28 h, ga_A (aM39 h), gM29 h, ga_A (aM40 h), hf, nI_is0, n3', q0, p0, e, ne10, if_true, if_false, ne_eq, not_true_eq_false, not_false_eq_true]
  · unfold hlw
    rw [if_neg q0, if_neg q3]
    obtain ⟨ν, e1, s1, f1⟩ := E_countWords (s := giv μ r p n 1) h hp hn hb hw
    have hν := s1.1
    have r39 : A ν 39 = A μ 39 := SC_A s1 (by decide) (by decide)
    have r40 : A ν 40 = A μ 40 := SC_A s1 (by decide) (by decide)
    have r41 : A ν 41 = A μ 41 := SC_A s1 (by decide) (by decide)
    refine ⟨ν, ?_, s1.mono (by decide) (by decide)⟩
    generalize giv μ r p n 1 = s at *
    generalize hal : lwP q (oft (A μ 22) p s n) (A μ 40 l) (A μ 41 l) = P
    have L := loop1 (fun w => m_G 151 89 [.ref 19, .int (nI l), .int (nI r), .int (nI p), .int s, .int (bI (alB P w)), .int (nI w)] [] ν) 100 (fun w hw1 => by
      try dsimp only
      have fw := f1 w hw1
      have hol := oft_le (A μ 22) p s n w
      have hPw : P w = lwP q (oft (A μ 22) p s n) (A μ 40 l) (A μ 41 l) w := by rw [hal]
      rw [i151_89, alB_st _ w]
      cases hB : alB P w with
      | false =>
        rw [Bool.false_and]
        simp (disch := first | omega | assumption) only [i151_91, i151_93, i151_96, i151_98, i151_101, i151_102, i151_105, i151_106, i151_107, i151_108, i151_111, i151_112, i151_115, i151_117, i151_118, i151_121, i151_123, i151_124, i151_125, i151_128, i151_129, i151_130, i151_131, i151_132, i151_135, i151_136, i151_137, i151_138, i151_141, i151_144, i151_147, i151_148, i151_151, i151_153, i151_154, i151_155, i151_158, i151_159, i151_162, i151_163, i151_165, i151_168, n100, lt_t, if_true, b_v_s, b_i_s, b_n_s, b_r_s, b_r_n, b_m_s, b_c_s, b_c_v, bI_0, nI_add1]
        rfl
      | true =>
        rw [Bool.true_and]
        by_cases q1 : q = 1
        · subst q1
          rw [hPw]
          unfold lwP
          rw [if_pos rfl]
          by_cases c : oft (A μ 22) p s n w = 0
          · rw [c] at fw ⊢
            simp (disch := first | omega | assumption) only [i151_91, i151_93, i151_96, i151_98, i151_101, i151_102, i151_105, i151_106, i151_107, i151_108, i151_111, i151_112, i151_115, i151_117, i151_118, i151_121, i151_123, i151_124, i151_125, i151_128, i151_129, i151_130, i151_131, i151_132, i151_135, i151_136, i151_137, i151_138, i151_141, i151_144, i151_147, i151_148, i151_151, i151_153, i151_154, i151_155, i151_158, i151_159, i151_162, i151_163, i151_165, i151_168, n100, lt_t, if_true, if_false, gM31 hν, ga_A (aM42 hν), gM28 hν, ga_A (aM39 hν), b_v_s, b_i_s, b_n_s, b_r_s, b_r_n, b_m_s, b_c_s, b_c_v, r39, hf, fw, nI_is0, bI_0, Bool.true_eq_false, ne_eq, not_true_eq_false, n1', nI_plus]
            rfl
          · rw [decide_eq_false c, Bool.false_or]
            have hI := E_in (μ := ν) (v := (nI w).toInt64) (lo := (A μ 40 l).toInt64) (hi := (A μ 41 l).toInt64)
            change m_D _ _ _ = some (some (.int (bI (inL (nI w) (A μ 40 l) (A μ 41 l)))), ν) at hI
            cases hC : inL (nI w) (A μ 40 l) (A μ 41 l) with
            | false =>
              rw [hC] at hI
              simp (disch := first | omega | assumption) only [i151_91, i151_93, i151_96, i151_98, i151_101, i151_102, i151_105, i151_106, i151_107, i151_108, i151_111, i151_112, i151_115, i151_117, i151_118, i151_121, i151_123, i151_124, i151_125, i151_128, i151_129, i151_130, i151_131, i151_132, i151_135, i151_136, i151_137, i151_138, i151_141, i151_144, i151_147, i151_148, i151_151, i151_153, i151_154, i151_155, i151_158, i151_159, i151_162, i151_163, i151_165, i151_168, n100, lt_t, if_true, if_false, gM31 hν, ga_A (aM42 hν), gM28 hν, ga_A (aM39 hν), gM29 hν, ga_A (aM40 hν), gM30 hν, ga_A (aM41 hν), b_v_s, b_i_s, b_n_s, b_r_s, b_r_n, b_m_s, b_c_s, b_c_v, r39, r40, r41, hf, fw, c, hI, nI_is0, bI_0, Bool.true_eq_false, ne_eq, not_true_eq_false, n1', nI_plus]
              rfl
            | true =>
              rw [hC] at hI
              simp (disch := first | omega | assumption) only [i151_91, i151_93, i151_96, i151_98, i151_101, i151_102, i151_105, i151_106, i151_107, i151_108, i151_111, i151_112, i151_115, i151_117, i151_118, i151_121, i151_123, i151_124, i151_125, i151_128, i151_129, i151_130, i151_131, i151_132, i151_135, i151_136, i151_137, i151_138, i151_141, i151_144, i151_147, i151_148, i151_151, i151_153, i151_154, i151_155, i151_158, i151_159, i151_162, i151_163, i151_165, i151_168, n100, lt_t, if_true, if_false, gM31 hν, ga_A (aM42 hν), gM28 hν, ga_A (aM39 hν), gM29 hν, ga_A (aM40 hν), gM30 hν, ga_A (aM41 hν), b_v_s, b_i_s, b_n_s, b_r_s, b_r_n, b_m_s, b_c_s, b_c_v, r39, r40, r41, hf, fw, c, hI, nI_is0, bI_0, Bool.true_eq_false, ne_eq, not_true_eq_false, n1', nI_plus]
              rfl
        · rw [hPw]
          unfold lwP
          rw [if_neg q1]
          by_cases c : oft (A μ 22) p s n w < 2
          · rw [decide_eq_true c]
            simp (disch := first | omega | assumption) only [i151_91, i151_93, i151_96, i151_98, i151_101, i151_102, i151_105, i151_106, i151_107, i151_108, i151_111, i151_112, i151_115, i151_117, i151_118, i151_121, i151_123, i151_124, i151_125, i151_128, i151_129, i151_130, i151_131, i151_132, i151_135, i151_136, i151_137, i151_138, i151_141, i151_144, i151_147, i151_148, i151_151, i151_153, i151_154, i151_155, i151_158, i151_159, i151_162, i151_163, i151_165, i151_168, n100, lt_t, if_true, if_false, gM31 hν, ga_A (aM42 hν), gM28 hν, ga_A (aM39 hν), b_v_s, b_i_s, b_n_s, b_r_s, b_r_n, b_m_s, b_c_s, b_c_v, r39, hf, fw, eq_f, lt_f, bI_0, Bool.true_eq_false, ne_eq, not_false_eq_true, n1', n2', nI_plus]
            rfl
          · rw [decide_eq_false c]
            simp (disch := first | omega | assumption) only [i151_91, i151_93, i151_96, i151_98, i151_101, i151_102, i151_105, i151_106, i151_107, i151_108, i151_111, i151_112, i151_115, i151_117, i151_118, i151_121, i151_123, i151_124, i151_125, i151_128, i151_129, i151_130, i151_131, i151_132, i151_135, i151_136, i151_137, i151_138, i151_141, i151_144, i151_147, i151_148, i151_151, i151_153, i151_154, i151_155, i151_158, i151_159, i151_162, i151_163, i151_165, i151_168, n100, lt_t, if_true, if_false, gM31 hν, ga_A (aM42 hν), gM28 hν, ga_A (aM39 hν), b_v_s, b_i_s, b_n_s, b_r_s, b_r_n, b_m_s, b_c_s, b_c_v, r39, hf, fw, eq_f, lt_f, bI_0, Bool.true_eq_false, ne_eq, not_false_eq_true, n1', n2', nI_plus]
            rfl)
    simp (disch := first | omega | assumption) only [D151, i151_0, i151_1, i151_2, i151_3, i151_6, i151_8, i151_9, i151_12, i151_13, i151_14, i151_41, i151_42, i151_45, i151_46, i151_47, i151_48, i151_76, i151_77, i151_78, i151_80, i151_83, i151_84, i151_86, i151_87, b_v_s, b_i_s, b_n_s, b_r_s, b_r_n, b_m_s, b_c_s, b_c_v, hg, gM28 h, ga_A (aM39 h), hf, nI_is0, q0, eq_f, n3', e1, if_true, if_false, ne_eq, not_false_eq_true]
    refine (show _ = _ from L).trans ?_
    try dsimp only
    rw [i151_89]
    simp (disch := first | omega | assumption | exact bI_and _) only [i151_91, i151_93, i151_171, i151_173, n100, lt_f, if_false]
end hlaw
