/-! sentences -/
def stps (x : Nat) : Nat := if x < 15 then 1 else if x < 240 then 2 else 3
def stO (x j : Nat) : Nat := if x < 15 then x else if x < 240 then (if j = 0 then (x - 15) / 15 % 15 else (x - 15) % 15) else (if j = 0 then (x - 240) / 15 / 15 % 15 else if j = 1 then (x - 240) / 15 % 15 else (x - 240) % 15)
def asR (t : Nat) : Nat := if t < 9 then t else if t < 14 then t + 6 else 20
theorem n9 : (9 : Int32) = nI 9 := rfl
theorem n6 : (6 : Int32) = nI 6 := rfl
theorem n240 : (240 : Int32) = nI 240 := rfl
theorem n2 : (2 : Int32) = nI 2 := rfl
theorem n3 : (3 : Int32) = nI 3 := rfl
theorem nI_div {a b : Nat} (ha : a < 2147483648) (hb : 0 < b) (hb2 : b < 2147483648) : nI a / nI b = nI (a / b) := by
  refine Int32.toInt_inj.mp ?_
  have h1 : a / b ≤ a := Nat.div_le_self a b
  have q : (a : Int).tdiv (b : Int) = ((a / b : Nat) : Int) := rfl
  rw [Int32.toInt_div, nI_toInt ha, nI_toInt hb2, nI_toInt (by omega), q]
  generalize a / b = k at h1
  exact Int.bmod_eq_of_le (by omega) (by omega)
theorem nI_rem {a b : Nat} (ha : a < 2147483648) (hb : 0 < b) (hb2 : b < 2147483648) : nI a - nI a / nI b * nI b = nI (a % b) := by
  rw [nI_div ha hb hb2, nI_times, nI_minus (Nat.div_mul_le_self a b)]
  congr 1
  have := Nat.div_add_mod a b
  rw [Nat.mul_comm] at this
  omega
theorem stO_lt (x j : Nat) (hx : x < 3615) : stO x j < 15 := by
  unfold stO
  split
  · assumption
  · split
    · split <;> exact Nat.mod_lt _ (by decide)
    · split
      · exact Nat.mod_lt _ (by decide)
      · split <;> exact Nat.mod_lt _ (by decide)
section sent
variable {μ : mM}
theorem E_stepsOf {x : Nat} (hx : x < 3615) : m_D 135 [.int (nI x)] μ = some (some (.int (nI (stps x))), μ) := by
  unfold stps
  rcases (show x < 15 ∨ (15 ≤ x ∧ x < 240) ∨ 240 ≤ x by omega) with h | h | h
  · rw [if_pos h]; simp (disch := omega) only [D135, i135_0, i135_1, i135_3, i135_6, i135_7, i135_10, i135_11, i135_14, i135_17, i135_18, i135_21, i135_22, n15, n240, lt_t, lt_f, if_true, if_false, n1]
  · rw [if_neg (by omega), if_pos h.2]; simp (disch := omega) only [D135, i135_0, i135_1, i135_3, i135_6, i135_7, i135_10, i135_11, i135_14, i135_17, i135_18, i135_21, i135_22, n15, n240, lt_t, lt_f, if_true, if_false, n2]
  · rw [if_neg (by omega), if_neg (by omega)]; simp (disch := omega) only [D135, i135_0, i135_1, i135_3, i135_6, i135_7, i135_10, i135_11, i135_14, i135_17, i135_18, i135_21, i135_22, n15, n240, lt_t, lt_f, if_true, if_false, n3]
theorem E_asRule {t : Nat} (ht : t < 15) : m_D 137 [.int (nI t)] μ = some (some (.int (nI (asR t))), μ) := by
  unfold asR
  rcases (show t < 9 ∨ (9 ≤ t ∧ t < 14) ∨ t = 14 by omega) with h | h | h
  · rw [if_pos h]; simp (disch := omega) only [D137, i137_0, i137_1, i137_3, i137_6, i137_7, i137_10, i137_11, i137_13, i137_16, i137_17, i137_19, i137_20, i137_23, i137_25, n9, n14, lt_t, lt_f, if_true, if_false]
  · rw [if_neg (by omega), if_pos h.2]; simp (disch := omega) only [D137, i137_0, i137_1, i137_3, i137_6, i137_7, i137_10, i137_11, i137_13, i137_16, i137_17, i137_19, i137_20, i137_23, i137_25, n9, n14, lt_t, lt_f, if_true, if_false, n6, nI_plus]
  · rw [if_neg (by omega), if_neg (by omega)]; simp (disch := omega) only [D137, i137_0, i137_1, i137_3, i137_6, i137_7, i137_10, i137_11, i137_13, i137_16, i137_17, i137_19, i137_20, i137_23, i137_25, n9, n14, lt_t, lt_f, if_true, if_false, n20]
theorem E_stepOf {x j : Nat} (hx : x < 3615) (hj : j < 3) : m_D 136 [.int (nI x), .int (nI j)] μ = some (some (.int (if j < stps x then nI (stO x j) else -1)), μ) := by
  have e1 : nI 1 - nI 1 = nI 0 := rfl
  have e2 : nI 2 - nI 1 = nI 1 := rfl
  have e3 : nI 3 - nI 1 = nI 2 := rfl
  have e4 : nI 2 + -nI 1 = nI 1 := rfl
  have e5 : nI 1 + -nI 1 = nI 0 := rfl
  have ne : ¬ nI 15 = 0 := by decide
  have l1 : ((0 : Nat) < 1) = True := eq_true (by decide)
  have l2 : ((0 : Nat) < 2) = True := eq_true (by decide)
  have l3 : ((0 : Nat) < 3) = True := eq_true (by decide)
  have l4 : ((1 : Nat) < 1) = False := eq_false (by decide)
  have l5 : ((1 : Nat) < 2) = True := eq_true (by decide)
  have l6 : ((2 : Nat) < 1) = False := eq_false (by decide)
  have l7 : ((2 : Nat) < 2) = False := eq_false (by decide)
  have l8 : ((1 : Nat) < 3) = True := eq_true (by decide)
  have l9 : ((2 : Nat) < 3) = True := eq_true (by decide)
  have rem' : ∀ a, a < 2147483648 → nI a - nI (a / 15) * nI 15 = nI (a % 15) := fun a ha => by rw [← nI_div ha (by decide) (by decide)]; exact nI_rem ha (by decide) (by decide)
  rcases (show x < 15 ∨ (15 ≤ x ∧ x < 240) ∨ 240 ≤ x by omega) with h | h | h
  · have hs : stps x = 1 := if_pos h
    have em : True := trivial
    have ho : stO x j = x % 15 := (if_pos h).trans (Nat.mod_eq_of_lt h).symm
    rcases (show j = 0 ∨ j = 1 ∨ j = 2 by omega) with rfl | rfl | rfl
    · simp (disch := omega) only [D136, i136_0, i136_1, i136_4, i136_5, i136_6, i136_7, i136_10, i136_11, i136_14, i136_15, i136_16, i136_19, i136_20, i136_22, i136_23, i136_26, i136_27, i136_30, i136_31, i136_32, i136_33, i136_34, i136_35, b_v_s, b_i_s, b_n_s, b_r_s, b_r_n, b_m_s, b_c_s, b_c_v, E_stepsOf, hs, n15, n240, eq_t, eq_f, n1, n2, e1, e2, e3, em, if_true, if_false]; rw [i136_37]; simp (disch := first | omega | exact ne) only [i136_39, i136_40, i136_43, i136_44, i136_46, i136_47, i136_48, i136_51, i136_54, i136_55, i136_56, i136_59, i136_60, i136_62, i136_63, i136_66, i136_67, n15, lt_t, lt_f, if_true, if_false, nI_div, rem', ho, n1, hs, l1, l2, l3, l4, l5, l6, l7, l8, l9]
    · simp (disch := omega) only [D136, i136_0, i136_1, i136_4, i136_5, i136_6, i136_7, i136_10, i136_11, i136_14, i136_15, i136_16, i136_19, i136_20, i136_22, i136_23, i136_26, i136_27, i136_30, i136_31, i136_32, i136_33, i136_34, i136_35, b_v_s, b_i_s, b_n_s, b_r_s, b_r_n, b_m_s, b_c_s, b_c_v, E_stepsOf, hs, n15, n240, eq_t, eq_f, n1, n2, e1, e2, e3, em, if_true, if_false]; rw [i136_37]; simp (disch := first | omega | exact ne) only [i136_39, i136_40, i136_43, i136_44, i136_46, i136_47, i136_48, i136_51, i136_54, i136_55, i136_56, i136_59, i136_60, i136_62, i136_63, i136_66, i136_67, n15, lt_t, lt_f, if_true, if_false, nI_div, rem', ho, n1, hs, l1, l2, l3, l4, l5, l6, l7, l8, l9]
    · simp (disch := omega) only [D136, i136_0, i136_1, i136_4, i136_5, i136_6, i136_7, i136_10, i136_11, i136_14, i136_15, i136_16, i136_19, i136_20, i136_22, i136_23, i136_26, i136_27, i136_30, i136_31, i136_32, i136_33, i136_34, i136_35, b_v_s, b_i_s, b_n_s, b_r_s, b_r_n, b_m_s, b_c_s, b_c_v, E_stepsOf, hs, n15, n240, eq_t, eq_f, n1, n2, e1, e2, e3, em, if_true, if_false]; rw [i136_37]; simp (disch := first | omega | exact ne) only [i136_39, i136_40, i136_43, i136_44, i136_46, i136_47, i136_48, i136_51, i136_54, i136_55, i136_56, i136_59, i136_60, i136_62, i136_63, i136_66, i136_67, n15, lt_t, lt_f, if_true, if_false, nI_div, rem', ho, n1, hs, l1, l2, l3, l4, l5, l6, l7, l8, l9]
  · have hs : stps x = 2 := by unfold stps; rw [if_neg (by omega), if_pos h.2]
    have em : nI x - nI 15 = nI (x - 15) := nI_minus h.1
    have ho : stO x j = if j = 0 then (x - 15) / 15 % 15 else (x - 15) % 15 := by unfold stO; rw [if_neg (by omega), if_pos h.2]
    rcases (show j = 0 ∨ j = 1 ∨ j = 2 by omega) with rfl | rfl | rfl
    · rw [if_pos rfl] at ho
      simp (disch := omega) only [D136, i136_0, i136_1, i136_4, i136_5, i136_6, i136_7, i136_10, i136_11, i136_14, i136_15, i136_16, i136_19, i136_20, i136_22, i136_23, i136_26, i136_27, i136_30, i136_31, i136_32, i136_33, i136_34, i136_35, b_v_s, b_i_s, b_n_s, b_r_s, b_r_n, b_m_s, b_c_s, b_c_v, E_stepsOf, hs, n15, n240, eq_t, eq_f, n1, n2, e1, e2, e3, em, if_true, if_false]; rw [i136_37]; simp (disch := first | omega | exact ne) only [i136_39, i136_40, i136_43, i136_44, i136_46, i136_47, i136_48, i136_51, n15, lt_t, if_true, nI_div, n1, e4, e5]; rw [i136_37]; simp (disch := first | omega | exact ne) only [i136_39, i136_40, i136_43, i136_44, i136_46, i136_47, i136_48, i136_51, i136_54, i136_55, i136_56, i136_59, i136_60, i136_62, i136_63, i136_66, i136_67, n15, lt_t, lt_f, if_true, if_false, nI_div, rem', ho, n1, hs, l1, l2, l3, l4, l5, l6, l7, l8, l9]
    · rw [if_neg (by decide)] at ho
      simp (disch := omega) only [D136, i136_0, i136_1, i136_4, i136_5, i136_6, i136_7, i136_10, i136_11, i136_14, i136_15, i136_16, i136_19, i136_20, i136_22, i136_23, i136_26, i136_27, i136_30, i136_31, i136_32, i136_33, i136_34, i136_35, b_v_s, b_i_s, b_n_s, b_r_s, b_r_n, b_m_s, b_c_s, b_c_v, E_stepsOf, hs, n15, n240, eq_t, eq_f, n1, n2, e1, e2, e3, em, if_true, if_false]; rw [i136_37]; simp (disch := first | omega | exact ne) only [i136_39, i136_40, i136_43, i136_44, i136_46, i136_47, i136_48, i136_51, i136_54, i136_55, i136_56, i136_59, i136_60, i136_62, i136_63, i136_66, i136_67, n15, lt_t, lt_f, if_true, if_false, nI_div, rem', ho, n1, hs, l1, l2, l3, l4, l5, l6, l7, l8, l9]
    · simp (disch := omega) only [D136, i136_0, i136_1, i136_4, i136_5, i136_6, i136_7, i136_10, i136_11, i136_14, i136_15, i136_16, i136_19, i136_20, i136_22, i136_23, i136_26, i136_27, i136_30, i136_31, i136_32, i136_33, i136_34, i136_35, b_v_s, b_i_s, b_n_s, b_r_s, b_r_n, b_m_s, b_c_s, b_c_v, E_stepsOf, hs, n15, n240, eq_t, eq_f, n1, n2, e1, e2, e3, em, if_true, if_false]; rw [i136_37]; simp (disch := first | omega | exact ne) only [i136_39, i136_40, i136_43, i136_44, i136_46, i136_47, i136_48, i136_51, i136_54, i136_55, i136_56, i136_59, i136_60, i136_62, i136_63, i136_66, i136_67, n15, lt_t, lt_f, if_true, if_false, nI_div, rem', ho, n1, hs, l1, l2, l3, l4, l5, l6, l7, l8, l9]
  · have hs : stps x = 3 := by unfold stps; rw [if_neg (by omega), if_neg (by omega)]
    have em : nI x - nI 240 = nI (x - 240) := nI_minus h
    have ho : stO x j = if j = 0 then (x - 240) / 15 / 15 % 15 else if j = 1 then (x - 240) / 15 % 15 else (x - 240) % 15 := by unfold stO; rw [if_neg (by omega), if_neg (by omega)]
    rcases (show j = 0 ∨ j = 1 ∨ j = 2 by omega) with rfl | rfl | rfl
    · rw [if_pos rfl] at ho
      simp (disch := omega) only [D136, i136_0, i136_1, i136_4, i136_5, i136_6, i136_7, i136_10, i136_11, i136_14, i136_15, i136_16, i136_19, i136_20, i136_22, i136_23, i136_26, i136_27, i136_30, i136_31, i136_32, i136_33, i136_34, i136_35, b_v_s, b_i_s, b_n_s, b_r_s, b_r_n, b_m_s, b_c_s, b_c_v, E_stepsOf, hs, n15, n240, eq_t, eq_f, n1, n2, e1, e2, e3, em, if_true, if_false]; rw [i136_37]; simp (disch := first | omega | exact ne) only [i136_39, i136_40, i136_43, i136_44, i136_46, i136_47, i136_48, i136_51, n15, lt_t, if_true, nI_div, n1, e4, e5]; rw [i136_37]; simp (disch := first | omega | exact ne) only [i136_39, i136_40, i136_43, i136_44, i136_46, i136_47, i136_48, i136_51, n15, lt_t, if_true, nI_div, n1, e4, e5]; rw [i136_37]; simp (disch := first | omega | exact ne) only [i136_39, i136_40, i136_43, i136_44, i136_46, i136_47, i136_48, i136_51, i136_54, i136_55, i136_56, i136_59, i136_60, i136_62, i136_63, i136_66, i136_67, n15, lt_t, lt_f, if_true, if_false, nI_div, rem', ho, n1, hs, l1, l2, l3, l4, l5, l6, l7, l8, l9]
    · rw [if_neg (by decide), if_pos rfl] at ho
      simp (disch := omega) only [D136, i136_0, i136_1, i136_4, i136_5, i136_6, i136_7, i136_10, i136_11, i136_14, i136_15, i136_16, i136_19, i136_20, i136_22, i136_23, i136_26, i136_27, i136_30, i136_31, i136_32, i136_33, i136_34, i136_35, b_v_s, b_i_s, b_n_s, b_r_s, b_r_n, b_m_s, b_c_s, b_c_v, E_stepsOf, hs, n15, n240, eq_t, eq_f, n1, n2, e1, e2, e3, em, if_true, if_false]; rw [i136_37]; simp (disch := first | omega | exact ne) only [i136_39, i136_40, i136_43, i136_44, i136_46, i136_47, i136_48, i136_51, n15, lt_t, if_true, nI_div, n1, e4, e5]; rw [i136_37]; simp (disch := first | omega | exact ne) only [i136_39, i136_40, i136_43, i136_44, i136_46, i136_47, i136_48, i136_51, i136_54, i136_55, i136_56, i136_59, i136_60, i136_62, i136_63, i136_66, i136_67, n15, lt_t, lt_f, if_true, if_false, nI_div, rem', ho, n1, hs, l1, l2, l3, l4, l5, l6, l7, l8, l9]
    · rw [if_neg (by decide), if_neg (by decide)] at ho
      simp (disch := omega) only [D136, i136_0, i136_1, i136_4, i136_5, i136_6, i136_7, i136_10, i136_11, i136_14, i136_15, i136_16, i136_19, i136_20, i136_22, i136_23, i136_26, i136_27, i136_30, i136_31, i136_32, i136_33, i136_34, i136_35, b_v_s, b_i_s, b_n_s, b_r_s, b_r_n, b_m_s, b_c_s, b_c_v, E_stepsOf, hs, n15, n240, eq_t, eq_f, n1, n2, e1, e2, e3, em, if_true, if_false]; rw [i136_37]; simp (disch := first | omega | exact ne) only [i136_39, i136_40, i136_43, i136_44, i136_46, i136_47, i136_48, i136_51, i136_54, i136_55, i136_56, i136_59, i136_60, i136_62, i136_63, i136_66, i136_67, n15, lt_t, lt_f, if_true, if_false, nI_div, rem', ho, n1, hs, l1, l2, l3, l4, l5, l6, l7, l8, l9]
end sent
