/-! a law of the page before holds -/
theorem nI_le0 {a : Nat} (ha : a < 2147483648) : (nI a ≤ 0) = (a = 0) := by
  rw [n0, nI_leE ha (by decide)]
  exact propext Nat.le_zero
theorem SC_giv {X Y : List Nat} {μ ν : mM} (s : SC X Y μ ν) (hX : ∀ a ∈ X, 34 ≤ a) (r p n : Nat) (t : Int32) : giv ν r p n t = giv μ r p n t := by
  unfold giv
  rw [SC_A s (by decide) (fun q => absurd (hX _ q) (by decide)), SC_A s (a := 32) (by decide) (fun q => absurd (hX _ q) (by decide)), SC_A s (a := 33) (by decide) (fun q => absurd (hX _ q) (by decide)), SC_A s (a := 23) (by decide) (fun q => absurd (hX _ q) (by decide)), SC_A s (a := 21) (by decide) (fun q => absurd (hX _ q) (by decide)), SC_A s (a := 22) (by decide) (fun q => absurd (hX _ q) (by decide))]
theorem SC_RO {X Y : List Nat} {μ ν : mM} (s : SC X Y μ ν) (hX : ∀ a ∈ X, 34 ≤ a) {r : Nat} (h : RO μ r) : RO ν r := by
  unfold RO
  rw [SC_A s (a := 32) (by decide) (fun q => absurd (hX _ q) (by decide)), SC_A s (a := 33) (by decide) (fun q => absurd (hX _ q) (by decide)), SC_A s (a := 31) (by decide) (fun q => absurd (hX _ q) (by decide))]
  exact h
def hbf (μ : mM) (r p n : Nat) : Nat → Bool := fun w => decide (0 < oft (A μ 22) p (giv μ r p n 1) n w)
def shr (x : Int32) (a b : Nat) : Bool := decide (¬ nI 100 * nI a < x * nI b)
theorem cnt_st (P : Nat → Bool) (n : Nat) : cnt P (n + 1) = cnt P n + (if P n = true then 1 else 0) := rfl
section hab
variable {μ : mM}
set_option maxHeartbeats 2000000 in
theorem E_hab {r p m n : Nat} {x : Int32} (h : MS μ) (hr : r < 10) (hp : p + 1 < 8) (hm : m ≤ 24) (hn : n ≤ 24) (hbm : A μ 20 p = nI m) (hbn : A μ 20 (p + 1) = nI n) (hwm : WW (A μ 22) p m) (hwn : WW (A μ 22) (p + 1) n) (hPm : PW (A μ 23) p m) (hPn : PW (A μ 23) (p + 1) n) (hR : RO μ r) : ∃ ν, m_D 150 [.ref 19, .int x, .int (nI r), .int (nI (p + 1))] μ = some (some (.int (bI (shr x (cnt (fun w => hbf μ r p m w && hbf μ r (p + 1) n w) 100) (cnt (hbf μ r p m) 100)))), ν) ∧ SC [42, 43] [] μ ν := by
  have ho := oM_oc h
  have hg := E_given h hr (by omega) hm hbm hPm hR
  obtain ⟨ν0, e0, s0, f0⟩ := E_countWords (s := giv μ r p m 1) h (by omega) hm hbm hwm
  have s0' : SC [42, 43] [] μ ν0 := s0.mono (by decide) (by decide)
  obtain ⟨ν1, w1, e1, s1, g1, f1⟩ := loop_inv (fun w ν (_ : Unit) => m_G 150 21 [.ref 19, .int x, .int (nI r), .int (nI (p + 1)), .int (nI (cnt (hbf μ r p m) w)), .int (nI w), m_d] [] ν) (fun w ν => SC [42, 43] [] μ ν ∧ (∀ j, j < 100 → A ν 42 j = nI (oft (A μ 22) p (giv μ r p m 1) m j)) ∧ ∀ j, j < w → A ν 43 j = bI (hbf μ r p m j)) 100 (fun w ν v hw1 P => by
    obtain ⟨s, g, f⟩ := P
    have hν := s.1
    have gw := g w hw1
    have hol := oft_le (A μ 22) p (giv μ r p m 1) m w
    refine ⟨wA ν 43 (upd (A ν 43) w (bI (hbf μ r p m w))), (), ?_, s.tr (SC_wA hν (aM43 hν) _ (by decide)), fun j hj => ?_, fun j hj => ?_⟩
    · try dsimp only
      rw [i150_21, cnt_st _ w]
      by_cases c : oft (A μ 22) p (giv μ r p m 1) m w = 0
      · have hB : hbf μ r p m w = false := by unfold hbf; rw [c]; rfl
        have h2 := MS_wA hν (aM43 hν) (upd (A ν 43) w 0)
        have r42 : A (wA ν 43 (upd (A ν 43) w 0)) 42 w = A ν 42 w := by rw [wA_A (aM43 hν), if_neg (by decide)]
        rw [gw, c] at r42
        rw [c] at gw
        rw [hB, bI_f]
        simp (disch := first | omega | assumption) only [i150_23, i150_25, i150_28, i150_29, i150_32, i150_34, i150_35, i150_38, i150_40, i150_41, i150_44, i150_45, i150_48, i150_49, i150_50, i150_52, i150_53, i150_56, i150_58, i150_59, i150_62, i150_63, i150_66, i150_67, i150_68, i150_70, i150_73, n100, lt_t, if_true, gM31 hν, ga_A (aM42 hν), gM32 hν, gb_A (aM43 hν) (Or.inl rfl), gM31 h2, ga_A (aM42 h2), b_v_s, b_i_s, b_n_s, b_r_s, b_r_n, b_m_s, b_c_s, b_c_v, gw, r42, nI_le0, pb_A (aM43 hν), and_01, nI_add1, Int32.add_zero, Bool.false_eq_true, if_false, Nat.add_zero]
      · have hB : hbf μ r p m w = true := by unfold hbf; exact decide_eq_true (by omega)
        have h2 := MS_wA hν (aM43 hν) (upd (A ν 43) w 1)
        have r42 : A (wA ν 43 (upd (A ν 43) w 1)) 42 w = A ν 42 w := by rw [wA_A (aM43 hν), if_neg (by decide)]
        rw [gw] at r42
        rw [hB, bI_t]
        simp (disch := first | omega | assumption) only [i150_23, i150_25, i150_28, i150_29, i150_32, i150_34, i150_35, i150_38, i150_40, i150_41, i150_44, i150_45, i150_48, i150_49, i150_50, i150_52, i150_53, i150_56, i150_58, i150_59, i150_62, i150_63, i150_66, i150_67, i150_68, i150_70, i150_73, n100, lt_t, if_true, if_false, gM31 hν, ga_A (aM42 hν), gM32 hν, gb_A (aM43 hν) (Or.inl rfl), gM31 h2, ga_A (aM42 h2), b_v_s, b_i_s, b_n_s, b_r_s, b_r_n, b_m_s, b_c_s, b_c_v, gw, r42, c, nI_le0, pb_A (aM43 hν), and_11, nI_add1]
    · rw [wA_A (aM43 hν), if_neg (by decide)]; exact g j hj
    · rw [wA_A (aM43 hν), if_pos rfl, upd_at]
      by_cases q : j = w
      · rw [if_pos q, q]
      · rw [if_neg q]; exact f j (by omega)) ν0 () ⟨s0', f0, fun j hj => by omega⟩
  have h1 := s1.1
  have ho1 := oM_oc h1
  have x20 : A ν1 20 = A μ 20 := SC_A s1 (by decide) (by decide)
  have x22 : A ν1 22 = A μ 22 := SC_A s1 (by decide) (by decide)
  have x23 : A ν1 23 = A μ 23 := SC_A s1 (by decide) (by decide)
  have hg1 := E_given h1 hr hp hn (by rw [x20]; exact hbn) (by rw [x23]; exact hPn) (SC_RO s1 (by decide) hR)
  rw [SC_giv s1 (by decide)] at hg1
  obtain ⟨ν2, e2, s2, f2⟩ := E_countWords (s := giv μ r (p + 1) n 1) h1 hp hn (by rw [x20]; exact hbn) (by rw [x22]; exact hwn)
  rw [x22] at f2
  have h2 := s2.1
  have y43 : A ν2 43 = A ν1 43 := SC_A s2 (by decide) (by decide)
  have L := loop1 (fun w => m_G 150 93 [.ref 19, .int x, .int (nI r), .int (nI (p + 1)), .int (nI (cnt (hbf μ r p m) 100)), .int (nI (cnt (fun w => hbf μ r p m w && hbf μ r (p + 1) n w) w)), .int (nI w)] [] ν2) 100 (fun w hw1 => by
    try dsimp only
    have gw := f2 w hw1
    have bw := f1 w hw1
    rw [← y43] at bw
    have hol := oft_le (A μ 22) (p + 1) (giv μ r (p + 1) n 1) n w
    rw [i150_93, cnt_st _ w]
    cases hA : hbf μ r p m w with
    | false =>
      rw [hA] at bw
      simp (disch := first | omega | assumption) only [i150_95, i150_97, i150_100, i150_102, i150_103, i150_106, i150_108, i150_109, i150_112, i150_113, i150_116, i150_118, i150_119, i150_122, i150_123, i150_126, i150_127, i150_128, i150_130, i150_133, n100, lt_t, if_true, gM32 h2, gb_A (aM43 h2) (Or.inl rfl), b_v_s, b_i_s, b_n_s, b_r_s, b_r_n, b_m_s, b_c_s, b_c_v, bw, bI_0, nI_add1, Int32.add_zero, Bool.false_and, Bool.false_eq_true, if_false, Nat.add_zero]
    | true =>
      rw [hA] at bw
      by_cases c : oft (A μ 22) (p + 1) (giv μ r (p + 1) n 1) n w = 0
      · have hB : hbf μ r (p + 1) n w = false := by unfold hbf; rw [c]; rfl
        rw [c] at gw
        simp (disch := first | omega | assumption) only [i150_95, i150_97, i150_100, i150_102, i150_103, i150_106, i150_108, i150_109, i150_112, i150_113, i150_116, i150_118, i150_119, i150_122, i150_123, i150_126, i150_127, i150_128, i150_130, i150_133, n100, lt_t, if_true, gM31 h2, ga_A (aM42 h2), gM32 h2, gb_A (aM43 h2) (Or.inl rfl), b_v_s, b_i_s, b_n_s, b_r_s, b_r_n, b_m_s, b_c_s, b_c_v, bw, gw, hB, bI_0, nI_le0, nI_add1, Int32.add_zero, Bool.true_and, Bool.true_eq_false, Bool.false_eq_true, if_false, Nat.add_zero]
      · have hB : hbf μ r (p + 1) n w = true := by unfold hbf; exact decide_eq_true (by omega)
        simp (disch := first | omega | assumption) only [i150_95, i150_97, i150_100, i150_102, i150_103, i150_106, i150_108, i150_109, i150_112, i150_113, i150_116, i150_118, i150_119, i150_122, i150_123, i150_126, i150_127, i150_128, i150_130, i150_133, n100, lt_t, if_true, gM31 h2, ga_A (aM42 h2), gM32 h2, gb_A (aM43 h2) (Or.inl rfl), b_v_s, b_i_s, b_n_s, b_r_s, b_r_n, b_m_s, b_c_s, b_c_v, bw, gw, hB, c, bI_0, nI_le0, nI_add1, Bool.true_and, Bool.true_eq_false, if_false])
  refine ⟨ν2, ?_, s1.tr (s2.mono (by decide) (by decide))⟩
  simp (disch := first | omega | assumption) only [D150, i150_0, i150_1, i150_3, i150_4, i150_5, i150_6, i150_7, i150_8, i150_9, i150_10, i150_11, i150_12, i150_15, i150_18, i150_19, b_v_s, b_i_s, b_n_s, b_r_s, b_r_n, b_m_s, b_c_s, b_c_v, nI_m1, hg, e0]
  refine (show _ = _ from e1).trans ?_
  try dsimp only
  rw [i150_21]
  simp (disch := first | omega | assumption) only [i150_23, i150_25, i150_76, i150_77, i150_79, i150_80, i150_81, i150_82, i150_83, i150_84, i150_87, i150_90, i150_91, b_v_s, b_i_s, b_n_s, b_r_s, b_r_n, b_m_s, b_c_s, b_c_v, n100, lt_f, if_false, hg1, e2]
  refine (show _ = _ from L).trans ?_
  try dsimp only
  rw [i150_93]
  by_cases c : nI 100 * nI (cnt (fun w => hbf μ r p m w && hbf μ r (p + 1) n w) 100) < x * nI (cnt (hbf μ r p m) 100)
  · rw [show shr x (cnt (fun w => hbf μ r p m w && hbf μ r (p + 1) n w) 100) (cnt (hbf μ r p m) 100) = false from decide_eq_false (fun q => q c)]
    simp (disch := first | omega | assumption | decide) only [i150_95, i150_97, i150_136, i150_138, i150_140, i150_141, i150_142, i150_144, i150_145, i150_148, i150_149, i150_152, i150_153, n100, lt_f, if_false, c, if_true, bI_f, and_01]
  · rw [show shr x (cnt (fun w => hbf μ r p m w && hbf μ r (p + 1) n w) 100) (cnt (hbf μ r p m) 100) = true from decide_eq_true c]
    simp (disch := first | omega | assumption | decide) only [i150_95, i150_97, i150_136, i150_138, i150_140, i150_141, i150_142, i150_144, i150_145, i150_148, i150_149, i150_152, i150_153, n100, lt_f, if_false, c, if_true, bI_t, and_11]
end hab
