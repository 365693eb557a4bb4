/-! the class: marks of pages, numbers of sentences, sentences drawn -/
theorem inR_b {x : Int32} {n : Nat} (hn : n < 2147483648) : inR x n = (decide (¬ x < 0) && decide (x < nI n)) := by
  unfold inR
  rw [← Bool.decide_and]
  congr 1
  rw [Int32.lt_iff_toInt_lt, Int32.lt_iff_toInt_lt, nI_toInt hn, show (0 : Int32).toInt = 0 by decide]
  exact propext ⟨fun q => ⟨by omega, q.2⟩, fun q => ⟨by omega, q.2⟩⟩
def PMk (μ : mM) (a p n : Nat) (MK WH : Nat → Int32) : Prop := FI μ a 11 = mk (fun b => decide (MK (24 * p + b) = 1)) n ∧ FI μ a 12 = mk (fun b => decide (MK (24 * p + b) = 2)) n ∧ FI μ a 13 = WH p ∧ (WH p = 0 ∨ WH p = 1) ∧ ∀ b, b < n → MK (24 * p + b) = 0 ∨ MK (24 * p + b) = 1 ∨ MK (24 * p + b) = 2
def DRN (μ : mM) (a p n : Nat) (PR KD : Nat → Int32) : Prop := FI μ a 15 = 0 ∨ (FI μ a 15 = 1 ∧ ∀ x, x < 3615 → A μ (a + 2) x = sn PR KD p n x)
theorem sn_lo {PR KD : Nat → Int32} {p n x : Nat} (hx : x < 15) : sn PR KD p n x = mk (ledP PR KD p 1 (asR x)) n := by
  unfold sn
  have h1 : stps x = 1 := if_pos hx
  have h2 : stO x 0 = x := if_pos hx
  rw [h1, ss, ss, h2]
theorem sn_hi {PR KD : Nat → Int32} {p n x : Nat} (hx : 15 ≤ x) (hx2 : x < 3615) : sn PR KD p n x = mk (ledP PR KD p (sn PR KD p n (x / 15 - 1)) (asR (x % 15))) n := by
  unfold sn
  by_cases q : x < 240
  · have h1 : stps x = 2 := by unfold stps; rw [if_neg (by omega), if_pos q]
    have hy : x / 15 - 1 < 15 := by omega
    have h2 : stps (x / 15 - 1) = 1 := if_pos hy
    have e0 : stO x 0 = x / 15 - 1 := by unfold stO; rw [if_neg (by omega), if_pos q, if_pos rfl]; omega
    have e1 : stO x 1 = x % 15 := by unfold stO; rw [if_neg (by omega), if_pos q, if_neg (by decide)]; omega
    have f0 : stO (x / 15 - 1) 0 = x / 15 - 1 := if_pos hy
    rw [h1, h2, ss, ss, ss, ss, ss, e0, e1, f0]
  · have h1 : stps x = 3 := by unfold stps; rw [if_neg (by omega), if_neg q]
    have h2 : stps (x / 15 - 1) = 2 := by unfold stps; rw [if_neg (by omega), if_pos (by omega)]
    have e0 : stO x 0 = stO (x / 15 - 1) 0 := by
      unfold stO
      rw [if_neg (by omega), if_neg q, if_pos rfl, if_neg (by omega), if_pos (by omega), if_pos rfl]; omega
    have e1 : stO x 1 = stO (x / 15 - 1) 1 := by
      unfold stO
      rw [if_neg (by omega), if_neg q, if_neg (by decide), if_pos rfl, if_neg (by omega), if_pos (by omega), if_neg (by decide)]; omega
    have e2 : stO x 2 = x % 15 := by
      unfold stO
      rw [if_neg (by omega), if_neg q, if_neg (by decide), if_neg (by decide)]; omega
    rw [h1, h2, ss, ss, ss, ss, ss, ss, ss, e0, e1, e2]
theorem led_0 {PR KD : Nat → Int32} {p n t : Nat} (hn : n ≤ 24) : mk (ledP PR KD p 0 t) n = 0 := by
  refine b_ext' fun i hi => ?_
  rw [b_mk _ (by omega), b_0, Bool.and_eq_true, ledP_lin]
  refine ⟨fun ⟨_, b, _, h, _⟩ => ?_, fun q => by cases q⟩
  rw [b_0] at h; cases h
theorem sn_lt {PR KD : Nat → Int32} {p n x b : Nat} (h1 : 1 ≤ n) (hn : n ≤ 24) (h : bt (sn PR KD p n x) b = true) : b < n := ss_lt h1 hn h
section csmall
variable {μ : mM} {a p n : Nat} {PR KD WD MK WH : Nat → Int32}
theorem C_has {x : Int32} (h : PV μ a p n PR KD WD) : m_D 17 [.ref a, .int x] μ = some (some (.int (bI (inR x n))), μ) := by
  have hn := PV_n h
  rw [inR_b (by omega)]
  by_cases c1 : x < 0 <;> by_cases c2 : x < nI n <;> (simp (disch := first | omega | decide) only [D17, i17_0, i17_1, i17_4, i17_5, i17_6, i17_9, i17_12, i17_13, i17_16, i17_17, P_size h, b_v_s, b_i_s, b_n_s, b_r_s, b_r_n, b_m_s, b_c_s, b_c_v, c1, c2, if_true, if_false, not_true, not_false_eq_true, decide_true, decide_false, Bool.false_and, Bool.and_false, Bool.and_self, bI_t, bI_f])
theorem C_markOf {b : Nat} (h : PV μ a p n PR KD WD) (hm : PMk μ a p n MK WH) (hb : b < n) : m_D 18 [.ref a, .int (nI b)] μ = some (some (.int (MK (24 * p + b))), μ) := by
  have hn := PV_n h
  have y : bt (FI μ a 11) b = decide (MK (24 * p + b) = 1) := by rw [hm.1, b_mk _ (by omega), decide_eq_true hb, Bool.true_and]
  have z : bt (FI μ a 12) b = decide (MK (24 * p + b) = 2) := by rw [hm.2.1, b_mk _ (by omega), decide_eq_true hb, Bool.true_and]
  rcases hm.2.2.2.2 b hb with q | q | q <;> rw [q] at y z ⊢ <;> simp (disch := first | omega | decide) only [D18, i18_0, i18_1, i18_4, i18_5, i18_8, i18_11, i18_12, i18_15, i18_16, i18_19, i18_20, i18_23, i18_26, i18_27, i18_30, i18_31, P_fyes h, P_fno h, b_v_s, b_i_s, b_n_s, b_r_s, b_r_n, b_m_s, b_c_s, b_c_v, E_isIn, y, z, bI_0, decide_eq_false_iff_not, if_true, if_false, show ((0 : Int32) = 1) = False from eq_false (by decide), show ((0 : Int32) = 2) = False from eq_false (by decide), show ((1 : Int32) = 2) = False from eq_false (by decide), show ((2 : Int32) = 1) = False from eq_false (by decide), not_true_eq_false, not_false_eq_true]
theorem C_isUnmarked {BM : Nat → Int32} (h : PV μ a p n PR KD WD) (hm : PMk μ a p n MK WH) (hB : bnn BM p = n) : m_D 20 [.ref a] μ = some (some (.int (bI (own BM MK WH p))), μ) := by
  unfold own mks
  rw [hB, ← hm.1, ← hm.2.1, ← hm.2.2.1]
  by_cases c1 : FI μ a 11 = 0 <;> by_cases c2 : FI μ a 12 = 0 <;> by_cases c3 : FI μ a 13 = 0 <;> (simp (disch := first | omega | decide) only [D20, i20_0, i20_1, i20_4, i20_7, i20_8, i20_11, i20_14, i20_15, i20_18, i20_21, i20_22, i20_25, i20_26, P_fyes h, P_fno h, P_fisWhole h, b_v_s, b_i_s, b_n_s, b_r_s, b_r_n, b_m_s, b_c_s, b_c_v, c1, c2, c3, if_true, if_false, decide_true, decide_false, Bool.false_and, Bool.and_false, Bool.and_self, bI_t, bI_f])
theorem C_isMet {BM : Nat → Int32} {s : Int32} (h : PV μ a p n PR KD WD) (hm : PMk μ a p n MK WH) (hB : bnn BM p = n) : m_D 21 [.ref a, .int s] μ = some (some (.int (bI (met s (mks BM MK p 1) (mks BM MK p 2) (WH p)))), μ) := by
  have hn := PV_n h
  have ex : s = FI μ a 11 → s &&& FI μ a 11 = FI μ a 11 ∧ s &&& FI μ a 12 = 0 := by
    intro e
    refine ⟨by rw [e]; exact b_ext fun i _ => by rw [b_and, Bool.and_self], ?_⟩
    rw [e, hm.1, hm.2.1]
    refine b_ext fun i _ => ?_
    rw [b_and, b_mk _ (by omega), b_mk _ (by omega), b_0]
    cases q : (decide (i < n) && decide (MK (24 * p + i) = 1)) with
    | false => rfl
    | true =>
      rw [Bool.and_eq_true, decide_eq_true_eq, decide_eq_true_eq] at q
      rw [q.2]
      simp
  unfold mks met
  rw [hB, ← hm.1, ← hm.2.1, ← hm.2.2.1]
  by_cases c3 : FI μ a 13 = 0
  · by_cases c1 : s &&& FI μ a 11 = FI μ a 11 <;> by_cases c2 : s &&& FI μ a 12 = 0 <;> (simp (disch := first | omega | decide) only [D21, i21_0, i21_1, i21_4, i21_7, i21_8, i21_9, i21_12, i21_15, i21_16, i21_19, i21_20, i21_23, i21_24, i21_25, i21_28, i21_29, i21_30, i21_33, i21_36, i21_37, i21_38, i21_41, i21_42, i21_45, i21_46, i21_49, i21_50, P_fyes h, P_fno h, P_fisWhole h, b_v_s, b_i_s, b_n_s, b_r_s, b_r_n, b_m_s, b_c_s, b_c_v, c1, c2, c3, if_true, if_false, decide_true, decide_false, Bool.false_and, Bool.and_false, Bool.and_self, Bool.true_or, bI_t, bI_f])
  · by_cases c1 : s = FI μ a 11
    · obtain ⟨e1, e2⟩ := ex c1
      rw [decide_eq_true e1, decide_eq_true e2, decide_eq_true c1]
      simp (disch := first | omega | decide) only [D21, i21_0, i21_1, i21_4, i21_7, i21_8, i21_9, i21_12, i21_15, i21_16, i21_19, i21_20, i21_23, i21_24, i21_25, i21_28, i21_29, i21_30, i21_33, i21_36, i21_37, i21_38, i21_41, i21_42, i21_45, i21_46, i21_49, i21_50, P_fyes h, P_fno h, P_fisWhole h, b_v_s, b_i_s, b_n_s, b_r_s, b_r_n, b_m_s, b_c_s, b_c_v, c1, c3, if_true, if_false, Bool.or_true, Bool.and_self, bI_t, bI_f]
    · rw [decide_eq_false c1, decide_eq_false c3]
      simp (disch := first | omega | decide) only [D21, i21_0, i21_1, i21_4, i21_7, i21_8, i21_9, i21_12, i21_15, i21_16, i21_19, i21_20, i21_23, i21_24, i21_25, i21_28, i21_29, i21_30, i21_33, i21_36, i21_37, i21_38, i21_41, i21_42, i21_45, i21_46, i21_49, i21_50, P_fyes h, P_fno h, P_fisWhole h, b_v_s, b_i_s, b_n_s, b_r_s, b_r_n, b_m_s, b_c_s, b_c_v, c1, c3, if_true, if_false, Bool.or_false, Bool.and_false, bI_t, bI_f]
theorem C_lengthOf {x : Nat} (hx : x < 3615) : m_D 99 [.int (nI x)] μ = some (some (.int (nI (stps x))), μ) := by
  unfold stps
  rcases (show x < 15 ∨ (15 ≤ x ∧ x < 240) ∨ 240 ≤ x by omega) with h | h | h
  · rw [if_pos h]; simp (disch := omega) only [D99, i99_0, i99_1, i99_3, i99_6, i99_7, i99_10, i99_11, i99_14, i99_17, i99_18, i99_21, i99_22, n15, n240, lt_t, lt_f, if_true, if_false, n1]
  · rw [if_neg (by omega), if_pos h.2]; simp (disch := omega) only [D99, i99_0, i99_1, i99_3, i99_6, i99_7, i99_10, i99_11, i99_14, i99_17, i99_18, i99_21, i99_22, n15, n240, lt_t, lt_f, if_true, if_false, n2]
  · rw [if_neg (by omega), if_neg (by omega)]; simp (disch := omega) only [D99, i99_0, i99_1, i99_3, i99_6, i99_7, i99_10, i99_11, i99_14, i99_17, i99_18, i99_21, i99_22, n15, n240, lt_t, lt_f, if_true, if_false, n3]
theorem le_t {a b : Nat} (h : a ≤ b) (hb : b < 2147483648) : (nI a ≤ nI b) = True := by rw [nI_leE (by omega) hb]; exact eq_true h
theorem le_f {a b : Nat} (h : b < a) (ha : a < 2147483648) : (nI a ≤ nI b) = False := by rw [nI_leE ha (by omega)]; exact eq_false (by omega)
theorem C_stepOfN {i : Int32} : m_D 100 [.int (-1), .int i] μ = some (some (.int (-1)), μ) := by
  simp only [D100, i100_0, i100_1, i100_4, i100_5, show ((0 : Int32) ≤ -1) = False from eq_false (by decide), if_false]
def bk (x : Nat) : Nat → Nat
  | 0 => x
  | k + 1 => bk x k / 15 - 1
theorem bk_le (x k : Nat) : bk x k ≤ x := by
  induction k with
  | zero => exact Nat.le_refl x
  | succ k ih => rw [bk]; omega
theorem C_stepOf {x j : Nat} (hx : x < 3615) (hj : j < 3) : m_D 100 [.int (nI x), .int (nI j)] μ = some (some (.int (if j < stps x then nI (stO x j) else -1)), μ) := by
  have hl := C_lengthOf (μ := μ) hx
  have ne : ¬ nI 15 = 0 := by decide
  have h0 : (0 : Int32) ≤ nI x := by rw [n0, nI_leE (by decide) (by omega)]; exact Nat.zero_le x
  have hs3 := stps_le x
  have rem' : ∀ a, a < 2147483648 → nI a - nI (a / 15) * nI 15 = nI (a % 15) := fun a ha => by rw [← nI_div ha (by decide) (by decide)]; exact nI_rem ha (by decide) (by decide)
  by_cases c : j < stps x
  · rw [if_pos c]
    -- s: what is left after k steps back
    have L := loop1 (fun k => m_G 100 29 [.int (nI x), .int (nI j), .int (nI (stps x)), .int (nI (bk x k)), .int (nI (stps x - 1 - k))] [] μ) (stps x - 1 - j) (fun k hk => by
      try dsimp only
      have h15 : 15 ≤ x := by
        rcases Nat.lt_or_ge x 15 with q | q
        · have : stps x = 1 := if_pos q
          omega
        · exact q
      have hk2 : k = 0 ∨ (k = 1 ∧ 240 ≤ x) := by
        rcases Nat.lt_or_ge x 240 with q | q
        · have : stps x = 2 := by unfold stps; rw [if_neg (by omega), if_pos q]
          omega
        · have : stps x = 3 := by unfold stps; rw [if_neg (by omega), if_neg (by omega)]
          omega
      have e : nI (stps x - 1 - k) + -1 = nI (stps x - 1 - (k + 1)) := by
        rw [show stps x - 1 - k = (stps x - 1 - (k + 1)) + 1 by omega, ← Int32.sub_eq_add_neg, nI_m1]
      have hb1 : 15 ≤ bk x k := by
        rcases hk2 with rfl | ⟨rfl, q⟩
        · exact h15
        · rw [bk, bk]; omega
      have hb2 := bk_le x k
      rw [i100_29, bk]
      simp (disch := first | omega | exact ne) only [i100_31, i100_32, i100_35, i100_36, i100_38, i100_39, i100_40, i100_41, i100_42, i100_45, lt_t, if_true, n15, nI_div, n1, nI_minus]
      rw [show (-1 : Int32) = -nI 1 from rfl] at e
      rw [e])
    simp (disch := first | omega | with_reducible assumption) only [D100, i100_0, i100_1, i100_4, i100_5, i100_6, i100_7, i100_10, i100_11, i100_12, i100_15, i100_16, i100_17, i100_20, i100_21, i100_22, i100_23, i100_24, i100_25, i100_26, i100_27, hl, b_v_s, b_i_s, b_n_s, b_r_s, b_r_n, b_m_s, b_c_s, b_c_v, h0, if_true, nI_lt0, if_false, lt_t, n1, nI_minus]
    refine (show _ = _ from L).trans ?_
    try dsimp only
    rw [show stps x - 1 - (stps x - 1 - j) = j by omega, i100_29]
    have hr : (bk x (stps x - 1 - j)) % 15 = stO x j ∧ (bk x (stps x - 1 - j)) ≤ x := by
      rcases (show x < 15 ∨ (15 ≤ x ∧ x < 240) ∨ 240 ≤ x by omega) with h | h | h
      · have hs : stps x = 1 := if_pos h
        have hj0 : j = 0 := by omega
        subst hj0
        rw [hs]
        rw [show 1 - 1 - 0 = 0 from rfl, bk]
        exact ⟨(Nat.mod_eq_of_lt h).trans (show x = stO x 0 from (if_pos h).symm), Nat.le_refl x⟩
      · have hs : stps x = 2 := by unfold stps; rw [if_neg (by omega), if_pos h.2]
        rw [hs]
        unfold stO
        rw [if_neg (by omega), if_pos h.2]
        rcases (show j = 0 ∨ j = 1 by omega) with rfl | rfl
        · rw [if_pos rfl, show 2 - 1 - 0 = 1 from rfl, bk, bk]; omega
        · rw [if_neg (by decide), show 2 - 1 - 1 = 0 from rfl, bk]; omega
      · have hs : stps x = 3 := by unfold stps; rw [if_neg (by omega), if_neg (by omega)]
        rw [hs]
        unfold stO
        rw [if_neg (by omega), if_neg (by omega)]
        rcases (show j = 0 ∨ j = 1 ∨ j = 2 by omega) with rfl | rfl | rfl
        · rw [if_pos rfl, show 3 - 1 - 0 = 2 from rfl, bk, bk, bk]; omega
        · rw [if_neg (by decide), if_pos rfl, show 3 - 1 - 1 = 1 from rfl, bk, bk]; omega
        · rw [if_neg (by decide), if_neg (by decide), show 3 - 1 - 2 = 0 from rfl, bk]; omega
    generalize (bk x (stps x - 1 - j)) = y at hr
    simp (disch := first | omega | exact ne) only [i100_31, i100_32, i100_35, i100_36, i100_38, i100_39, i100_40, i100_41, i100_42, i100_45, i100_48, i100_49, i100_51, i100_52, lt_f, if_false, n15, nI_rem, hr.1]
  · rw [if_neg c]
    simp (disch := first | omega | with_reducible assumption) only [D100, i100_0, i100_1, i100_4, i100_5, i100_6, i100_7, i100_10, i100_11, i100_12, i100_15, i100_16, i100_17, i100_20, i100_21, hl, b_v_s, b_i_s, b_n_s, b_r_s, b_r_n, b_m_s, b_c_s, b_c_v, h0, if_true, nI_lt0, if_false, lt_f]
set_option maxHeartbeats 1000000 in
theorem C_fill {r n : Nat} {v : Int32} (h : isA μ r 0 n) (hn : n ≤ 100000) : ∃ ν, m_D 172 [.ref r, .int v] μ = some (none, ν) ∧ K [r] [] μ ν ∧ ∀ j, j < n → A ν r j = v := by
  have hl := ln_A h
  obtain ⟨ν, w, e, s, f⟩ := loop_inv (fun i ν (_ : Unit) => m_G 172 5 [.ref r, .int v, .int (nI i), .int (nI n)] [] ν) (fun i ν => K [r] [] μ ν ∧ ∀ j, j < i → A ν r j = v) n (fun i ν _ hi P => by
    obtain ⟨s, f⟩ := P
    have hν := K_isA s h
    refine ⟨wA ν r (upd (A ν r) i v), (), ?_, s.tr (K_wA hν _ (by simp)), fun y hy => ?_⟩
    · try dsimp only
      rw [i172_5]
      simp (disch := first | omega | with_reducible assumption) only [i172_6, i172_7, i172_10, i172_11, i172_12, i172_13, i172_14, i172_17, lt_t, if_true, pa_A hν, b_v_s, b_i_s, b_n_s, b_r_s, b_r_n, b_m_s, b_c_s, b_c_v, nI_add1]
    · rw [wA_A hν, if_pos rfl, upd_at]
      by_cases q : y = i
      · rw [if_pos q]
      · rw [if_neg q]; exact f y (by omega)) μ () ⟨K.rf μ, fun y hy => by omega⟩
  refine ⟨ν, ?_, s, f⟩
  simp (disch := first | omega | with_reducible assumption) only [D172, i172_0, i172_1, i172_2, i172_3, i172_4, hl, b_v_s, b_i_s, b_n_s, b_r_s, b_r_n, b_m_s, b_c_s, b_c_v, nN, n0]
  refine (show _ = _ from e).trans ?_
  try dsimp only
  rw [i172_5]
  simp (disch := first | omega | with_reducible assumption) only [i172_6, i172_7, i172_10, i172_11, i172_12, i172_13, i172_14, i172_17, i172_20, lt_f, if_false]
set_option maxHeartbeats 1000000 in
theorem C_drawSentences (h : PV μ a p n PR KD WD) (hd : DRN μ a p n PR KD) : ∃ ν, m_D 26 [.ref a] μ = some (none, ν) ∧ K [a + 2] [(a, 15)] μ ν ∧ FI ν a 15 = 1 ∧ ∀ x, x < 3615 → A ν (a + 2) x = sn PR KD p n x := by
  have hn := PV_n h
  have h1 := h.2.2.1.1
  rcases hd with hd | ⟨hd, hs⟩
  · obtain ⟨ν, w, e, s, f⟩ := loop_inv (fun i ν (v : Value) => m_G 26 10 [.ref a, .int (nI i), v] [] ν) (fun i ν => K [a + 2] [] μ ν ∧ ∀ x, x < i → A ν (a + 2) x = sn PR KD p n x) 3615 (fun i ν v hi P => by
      obtain ⟨s, f⟩ := P
      have hν : PV ν a p n PR KD WD := PV_K h s (fun j h1 h2 h3 => by simp; omega) (by simp)
      have hoν := P_oc hν
      have h2 := hν.1.2.2.1
      have ne : ¬ nI 15 = 0 := by decide
      have rem' : ∀ a, a < 2147483648 → nI a - nI (a / 15) * nI 15 = nI (a % 15) := fun a ha => by rw [← nI_div ha (by decide) (by decide)]; exact nI_rem ha (by decide) (by decide)
      by_cases c : i < 15
      · have hl := C_led (t := i) (s := 1) hν (by omega) (fun b hb => by rw [b_1, decide_eq_true_eq] at hb; omega)
        rw [asC_asR c, ← sn_lo c] at hl
        refine ⟨wA ν (a + 2) (upd (A ν (a + 2)) i (sn PR KD p n i)), .int 1, ?_, s.tr (K_wA h2 _ (by simp)), fun x hx => ?_⟩
        · try dsimp only
          rw [i26_10]
          have e1 : i % 15 = i := Nat.mod_eq_of_lt c
          simp (disch := first | omega | exact ne | with_reducible assumption) only [i26_11, i26_14, i26_17, i26_18, i26_20, i26_23, i26_24, i26_27, i26_28, i26_31, i26_32, i26_34, i26_35, i26_36, i26_37, i26_38, i26_39, i26_40, i26_43, i26_44, i26_45, i26_48, i26_49, i26_52, i26_53, i26_54, i26_56, i26_57, i26_58, i26_61, i26_62, i26_65, n3615, n15, lt_t, if_true, if_false, P_fsentenceSets hν, P_sets hν, b_v_s, b_i_s, b_n_s, b_r_s, b_r_n, b_m_s, b_c_s, b_c_v, ne10, nI_rem, e1, hl, pa_A h2, nI_add1]
        · rw [wA_A h2, if_pos rfl, upd_at]
          by_cases q : x = i
          · rw [if_pos q, q]
          · rw [if_neg q]; exact f x (by omega)
      · have hy : i / 15 - 1 < i := by omega
        have fy := f (i / 15 - 1) hy
        have hl := C_led (t := i % 15) (s := sn PR KD p n (i / 15 - 1)) hν (by omega) (fun b hb => sn_lt h1 hn hb)
        rw [asC_asR (by omega), ← sn_hi (by omega) hi] at hl
        refine ⟨wA ν (a + 2) (upd (A ν (a + 2)) i (sn PR KD p n i)), .int (sn PR KD p n (i / 15 - 1)), ?_, s.tr (K_wA h2 _ (by simp)), fun x hx => ?_⟩
        · try dsimp only
          rw [i26_10]
          by_cases z : sn PR KD p n (i / 15 - 1) = 0
          · have e0 : sn PR KD p n i = 0 := by rw [sn_hi (by omega) hi, z, led_0 hn]
            rw [z] at fy
            rw [e0, z]
            simp (disch := first | omega | exact ne | with_reducible assumption) only [i26_11, i26_14, i26_17, i26_18, i26_20, i26_23, i26_24, i26_27, i26_28, i26_31, i26_32, i26_34, i26_35, i26_36, i26_37, i26_38, i26_39, i26_40, i26_43, i26_44, i26_45, i26_48, i26_49, i26_52, i26_53, i26_54, i26_56, i26_57, i26_58, i26_61, i26_62, i26_65, n3615, n15, lt_t, lt_f, if_true, if_false, P_fsentenceSets hν, P_sets hν, b_v_s, b_i_s, b_n_s, b_r_s, b_r_n, b_m_s, b_c_s, b_c_v, nI_div, n1, nI_minus, nI_plus, fy, pa_A h2, nI_add1]
          · simp (disch := first | omega | exact ne | with_reducible assumption) only [i26_11, i26_14, i26_17, i26_18, i26_20, i26_23, i26_24, i26_27, i26_28, i26_31, i26_32, i26_34, i26_35, i26_36, i26_37, i26_38, i26_39, i26_40, i26_43, i26_44, i26_45, i26_48, i26_49, i26_52, i26_53, i26_54, i26_56, i26_57, i26_58, i26_61, i26_62, i26_65, n3615, n15, lt_t, lt_f, if_true, if_false, P_fsentenceSets hν, P_sets hν, b_v_s, b_i_s, b_n_s, b_r_s, b_r_n, b_m_s, b_c_s, b_c_v, nI_div, n1, nI_minus, nI_plus, fy, z, rem', hl, pa_A h2, nI_add1]
        · rw [wA_A h2, if_pos rfl, upd_at]
          by_cases q : x = i
          · rw [if_pos q, q]
          · rw [if_neg q]; exact f x (by omega)) μ m_d ⟨K.rf μ, fun x hx => by omega⟩
    have hν : PV ν a p n PR KD WD := PV_K h s (fun j h1 h2 h3 => by simp; omega) (by simp)
    have hpo := pOb (k := 15) hν.1.1 rfl true
    refine ⟨wO ν a 15 (.int 1), ?_, (s.mono (fun _ q => q) (by simp)).tr (K_wO hν.1.1 (k := 15) rfl 1 (by simp)), by rw [wO_FIo hν.1.1 (k := 15) rfl, if_pos ⟨rfl, rfl⟩], fun x hx => by rw [wO_A hν.1.1]; exact f x hx⟩
    simp (disch := first | omega | with_reducible assumption) only [D26, i26_0, i26_1, i26_4, i26_7, i26_8, i26_9, P_fsentencesDrawn h, b_v_s, b_i_s, b_n_s, b_r_s, b_r_n, b_m_s, b_c_s, b_c_v, hd, if_true]
    refine (show _ = _ from e).trans ?_
    try dsimp only
    rw [i26_10]
    rw [bI_t] at hpo
    simp (disch := first | omega | with_reducible assumption) only [i26_11, i26_14, i26_68, i26_69, i26_70, i26_73, n3615, lt_f, if_false, hpo, b_v_s, b_i_s, b_n_s, b_r_s, b_r_n, b_m_s, b_c_s, b_c_v]
  · refine ⟨μ, ?_, K.rf μ, hd, hs⟩
    simp (disch := first | omega | with_reducible assumption) only [D26, i26_0, i26_1, i26_4, i26_7, i26_8, i26_9, P_fsentencesDrawn h, b_v_s, b_i_s, b_n_s, b_r_s, b_r_n, b_m_s, b_c_s, b_c_v, hd, ne10, if_false]
end csmall
