/-! where sentences lead, by the model's table -/
def lay (PR KD : Nat → Int32) (p n : Nat) (f : Nat → Int32) (t b : Nat) : Nat → Int32 := fun i => if (i / 24 < t ∨ (i / 24 = t ∧ i % 24 < b)) ∧ i % 24 < n then mk (ledP PR KD p (sb (i % 24)) (asR (i / 24))) n else f i
theorem lay_0 (PR KD : Nat → Int32) (p n : Nat) (f : Nat → Int32) : lay PR KD p n f 0 0 = f := by
  funext i
  unfold lay
  rw [if_neg (by omega)]
theorem lay_st {PR KD : Nat → Int32} {p n : Nat} {f : Nat → Int32} {t b : Nat} (hb : b < n) (hn : n ≤ 24) : upd (lay PR KD p n f t b) (24 * t + b) (mk (ledP PR KD p (sb b) (asR t)) n) = lay PR KD p n f t (b + 1) := by
  funext i
  unfold upd lay
  by_cases h : i = 24 * t + b
  · have h1 : i / 24 = t := by omega
    have h2 : i % 24 = b := by omega
    rw [if_pos h, if_pos (by omega), h1, h2]
  · rw [if_neg h]
    by_cases q : (i / 24 < t ∨ (i / 24 = t ∧ i % 24 < b)) ∧ i % 24 < n
    · rw [if_pos q, if_pos (by omega)]
    · rw [if_neg q, if_neg (by omega)]
theorem lay_nx {PR KD : Nat → Int32} {p n : Nat} {f : Nat → Int32} {t : Nat} : lay PR KD p n f t n = lay PR KD p n f (t + 1) 0 := by
  funext i
  unfold lay
  by_cases q : (i / 24 < t ∨ (i / 24 = t ∧ i % 24 < n)) ∧ i % 24 < n
  · rw [if_pos q, if_pos (by omega)]
  · rw [if_neg q, if_neg (by omega)]
/-- the union of rows of a table over a set -/
def orU (f : Nat → Int32) (s : Int32) : Nat → Int32
  | 0 => 0
  | b + 1 => orU f s b ||| (if bt s b = true then f b else 0)
def ldo (F : Nat → Int32) (x : Nat) : Nat → Int32
  | 0 => 1
  | i + 1 => orU (fun b => F (24 * stO x i + b)) (ldo F x i) 24
theorem asR_lt {t : Nat} (ht : t < 15) : asR t < 21 := by
  unfold asR
  split
  · omega
  · split <;> omega
theorem stps_le (x : Nat) : stps x ≤ 3 := by
  unfold stps
  split
  · omega
  · split <;> omega
section leads
variable {μ : mM}
set_option maxHeartbeats 1000000 in
theorem E_layLeads {p n : Nat} (h : MS μ) (hp : p < 8) (hn : n ≤ 24) (hb : A μ 20 p = nI n) (hw : PW (A μ 23) p n) : m_D 138 [.ref 19, .int (nI p)] μ = some (none, wA μ 34 (lay (A μ 23) (A μ 21) p n (A μ 34) 15 0)) := by
  have a34 := aM34 h
  have inner : ∀ t, t < 15 → m_G 138 10 [.ref 19, .int (nI p), .int (nI t), .int (nI 0)] [] (wA μ 34 (lay (A μ 23) (A μ 21) p n (A μ 34) t 0)) = m_G 138 10 [.ref 19, .int (nI p), .int (nI t), .int (nI n)] [] (wA μ 34 (lay (A μ 23) (A μ 21) p n (A μ 34) t n)) := by
    intro t ht
    refine loop1 (fun b => m_G 138 10 [.ref 19, .int (nI p), .int (nI t), .int (nI b)] [] (wA μ 34 (lay (A μ 23) (A μ 21) p n (A μ 34) t b))) n (fun b hbn => ?_)
    try dsimp only
    have hν := MS_wA h a34 (lay (A μ 23) (A μ 21) p n (A μ 34) t b)
    have e20 : A (wA μ 34 (lay (A μ 23) (A μ 21) p n (A μ 34) t b)) 20 = A μ 20 := by rw [wA_A a34, if_neg (by decide)]
    have e21 : A (wA μ 34 (lay (A μ 23) (A μ 21) p n (A μ 34) t b)) 21 = A μ 21 := by rw [wA_A a34, if_neg (by decide)]
    have e23 : A (wA μ 34 (lay (A μ 23) (A μ 21) p n (A μ 34) t b)) 23 = A μ 23 := by rw [wA_A a34, if_neg (by decide)]
    have e34 : A (wA μ 34 (lay (A μ 23) (A μ 21) p n (A μ 34) t b)) 34 = lay (A μ 23) (A μ 21) p n (A μ 34) t b := by rw [wA_A a34, if_pos rfl]
    have ho := oM_oc hν
    have hr : asR t < 21 := asR_lt ht
    have hl := E_led (s := sb b) hν hp hn (by rw [e20]; exact hb) (by rw [e23]; exact hw) hr
    rw [e21, e23] at hl
    have hb' := hb
    rw [← e20] at hb'
    have hst := pa_A (k := 24 * t + b) (x := mk (ledP (A μ 23) (A μ 21) p (sb b) (asR t)) n) (aM34 hν) (by omega) (by decide)
    rw [e34, lay_st hbn hn, wA_wA a34] at hst
    rw [i138_10]
    simp (disch := first | omega | assumption) only [i138_11, i138_12, i138_15, i138_16, i138_17, i138_20, i138_21, i138_24, i138_26, i138_27, i138_28, i138_29, i138_30, i138_31, i138_32, i138_33, i138_34, i138_35, i138_36, i138_39, i138_42, i138_43, i138_46, gM1 hν, ga_A (aM20 hν), gM21 hν, ga_A (aM34 hν), b_v_s, b_i_s, b_n_s, b_r_s, b_r_n, b_m_s, b_c_s, b_c_v, hb', lt_t, if_true, k24, E_asRule, sb_def, hl, hst, nI_add1]
  have L := loop_b (fun t (v : Value) => m_G 138 2 [.ref 19, .int (nI p), .int (nI t), v] [] (wA μ 34 (lay (A μ 23) (A μ 21) p n (A μ 34) t 0))) 15 (some (none, wA μ 34 (lay (A μ 23) (A μ 21) p n (A μ 34) 15 0))) (fun v => by
      try dsimp only
      rw [i138_2]
      simp (disch := omega) only [i138_3, i138_5, i138_8, i138_9, n15, lt_f, if_false, i138_55]) (fun t v ht => ⟨.int (nI n), by
      try dsimp only
      rw [i138_2]
      simp (disch := omega) only [i138_3, i138_5, i138_8, i138_9, n15, lt_t, if_true, n0]
      rw [inner t ht, lay_nx, i138_10]
      have hν := MS_wA h a34 (lay (A μ 23) (A μ 21) p n (A μ 34) (t + 1) 0)
      have hb' : A (wA μ 34 (lay (A μ 23) (A μ 21) p n (A μ 34) (t + 1) 0)) 20 p = nI n := by rw [wA_A a34, if_neg (by decide)]; exact hb
      simp (disch := first | omega | assumption) only [i138_11, i138_12, i138_15, i138_16, i138_17, i138_20, i138_21, i138_24, i138_26, i138_27, i138_28, i138_29, i138_30, i138_31, i138_32, i138_33, i138_34, i138_35, i138_36, i138_39, i138_42, i138_43, i138_46, i138_49, i138_52, gM1 hν, ga_A (aM20 hν), b_v_s, b_i_s, b_n_s, b_r_s, b_r_n, b_m_s, b_c_s, b_c_v, hb', lt_f, if_false, nI_add1]⟩)
  simp only [D138, i138_0, i138_1, n0]
  have e : wA μ 34 (lay (A μ 23) (A μ 21) p n (A μ 34) 0 0) = μ := by
    rw [lay_0, wA_eq a34]
    unfold m_set
    have : va_up μ.2.2 34 (some (m_ia 0 360 (A μ 34))) = μ.2.2 := by
      funext j
      unfold va_up
      split
      · rename_i hj; subst hj; exact a34.symm
      · rfl
    rw [this]
  have L0 := L m_d
  try dsimp only at L0
  rw [e] at L0
  exact L0
set_option maxHeartbeats 1000000 in
theorem E_leadsOn {x : Nat} (h : MS μ) (hx : x < 3615) : m_D 139 [.ref 19, .int (nI x)] μ = some (some (.int (ldo (A μ 34) x (stps x))), μ) := by
  have hs3 : stps x ≤ 3 := stps_le x
  have inner : ∀ i, i < stps x → m_G 139 25 [.ref 19, .int (nI x), .int (ldo (A μ 34) x i), .int (nI i), .int (nI (stO x i)), .int (nI 0), .int (nI 0)] [] μ = m_G 139 25 [.ref 19, .int (nI x), .int (ldo (A μ 34) x i), .int (nI i), .int (nI (stO x i)), .int (ldo (A μ 34) x (i + 1)), .int (nI 24)] [] μ := by
    intro i hi
    refine loop1 (fun b => m_G 139 25 [.ref 19, .int (nI x), .int (ldo (A μ 34) x i), .int (nI i), .int (nI (stO x i)), .int (orU (fun b => A μ 34 (24 * stO x i + b)) (ldo (A μ 34) x i) b), .int (nI b)] [] μ) 24 (fun b hb => ?_)
    try dsimp only
    have hso := stO_lt x i hx
    rw [i139_25, orU]
    simp (disch := first | omega | assumption) only [i139_27, i139_29, i139_32, i139_34, i139_35, i139_37, i139_40, n24, lt_t, if_true, E_has, b_v_s, b_i_s, b_n_s, b_r_s, b_r_n, b_m_s, b_c_s, b_c_v, bI_0]
    cases bt (ldo (A μ 34) x i) b <;> simp (disch := first | omega | assumption) only [i139_43, i139_44, i139_47, i139_49, i139_51, i139_52, i139_54, i139_55, i139_56, i139_59, i139_60, i139_61, i139_63, i139_66, gM21 h, ga_A (aM34 h), b_v_s, b_i_s, b_n_s, b_r_s, b_r_n, b_m_s, b_c_s, b_c_v, k24, nI_add1, if_true, if_false, Bool.true_eq_false, Bool.false_eq_true]
  have L := loop_b (fun i (v : Value × Value × Value) => m_G 139 4 [.ref 19, .int (nI x), .int (ldo (A μ 34) x i), .int (nI i), v.1, v.2.1, v.2.2] [] μ) (stps x) (some (some (.int (ldo (A μ 34) x (stps x))), μ)) (fun v => by
      try dsimp only
      rw [i139_4]
      simp (disch := omega) only [i139_5, i139_6, i139_9, i139_78, i139_79, b_v_s, b_i_s, b_n_s, b_r_s, b_r_n, b_m_s, b_c_s, b_c_v, E_stepsOf, lt_f, if_false]) (fun i v hi => ⟨(.int (nI (stO x i)), .int (ldo (A μ 34) x (i + 1)), .int (nI 24)), by
      try dsimp only
      have hs := E_stepOf (μ := μ) (x := x) (j := i) hx (by omega)
      rw [if_pos hi] at hs
      rw [i139_4]
      simp (disch := omega) only [i139_5, i139_6, i139_9, i139_12, i139_13, i139_14, i139_17, i139_19, i139_20, i139_22, i139_23, b_v_s, b_i_s, b_n_s, b_r_s, b_r_n, b_m_s, b_c_s, b_c_v, E_stepsOf, lt_t, if_true, hs, n0]
      rw [inner i hi, i139_25]
      simp (disch := omega) only [i139_27, i139_29, i139_69, i139_71, i139_72, i139_75, n24, lt_f, if_false, nI_add1]⟩)
  simp only [D139, i139_0, i139_1, i139_2, i139_3, n0]
  exact L (m_d, m_d, m_d)
end leads
