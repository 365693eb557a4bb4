/-! the class: where steps lead, words -/
section cled
variable {μ : mM} {a p n : Nat} {PR KD WD : Nat → Int32}
theorem C_innerFrom {b k : Nat} (h : PV μ a p n PR KD WD) (hb : b < n) (hk : k < 100) : m_D 24 [.ref a, .int (nI b), .int (nI k)] μ = some (some (.int (rst (inn PR p n b) k)), μ) := by
  have L := loop1 (fun i => m_G 24 10 [.ref a, .int (nI b), .int (nI k), .int (rst (inn PR p n b) i), .int (nI i)] [] μ) k (fun i hi => by
    try dsimp only
    rw [i24_10, rst]
    simp (disch := first | omega | with_reducible assumption) only [i24_12, i24_13, i24_16, i24_17, i24_18, i24_19, i24_20, i24_21, i24_22, i24_25, lt_t, if_true, nI_add1])
  simp (disch := first | omega | with_reducible assumption) only [D24, i24_0, i24_1, i24_4, i24_5, i24_6, i24_7, i24_8, P_finner h, P_inner h, b_v_s, b_i_s, b_n_s, b_r_s, b_r_n, b_m_s, b_c_s, b_c_v, n0]
  refine (show _ = _ from L).trans ?_
  try dsimp only
  rw [i24_10]
  simp (disch := first | omega | with_reducible assumption) only [i24_12, i24_13, i24_16, i24_17, i24_18, i24_19, i24_20, i24_21, i24_22, i24_25, i24_28, i24_29, lt_f, if_false]
theorem C_innerBehind {b : Nat} (h : PV μ a p n PR KD WD) (hb : b < n) : m_D 25 [.ref a, .int (nI b)] μ = some (some (.int (if b = 0 then 0 else inn PR p n (up PR p b) &&& ((-2 : Int32) <<< (nI b &&& 31)))), μ) := by
  have hw := h.2.2.2.1
  have hn := PV_n h
  by_cases h0 : b = 0
  · subst h0
    have e := hw.1
    rw [if_pos rfl]
    simp (disch := first | omega | with_reducible assumption) only [D25, i25_0, i25_1, i25_4, i25_5, i25_6, i25_7, i25_8, i25_9, i25_12, i25_13, i25_16, i25_17, i25_20, i25_21, i25_22, i25_24, i25_25, i25_26, i25_27, P_fparents h, P_parents h, b_v_s, b_i_s, b_n_s, b_r_s, b_r_n, b_m_s, b_c_s, b_c_v, Nat.add_zero, e, if_true]
  · obtain ⟨h1, h2⟩ := hw.2 b (by omega) hb
    rw [if_neg h0]
    simp (disch := first | omega | with_reducible assumption) only [D25, i25_0, i25_1, i25_4, i25_5, i25_6, i25_7, i25_8, i25_9, i25_12, i25_13, i25_16, i25_17, i25_20, i25_21, i25_22, i25_24, i25_25, i25_26, i25_27, P_fparents h, P_parents h, P_finner h, P_inner h, b_v_s, b_i_s, b_n_s, b_r_s, b_r_n, b_m_s, b_c_s, b_c_v, h1, nI_ne1, if_false]
theorem C_ledFrom {b t : Nat} (h : PV μ a p n PR KD WD) (hb : b < n) (ht : t < 21) : m_D 23 [.ref a, .int (nI t), .int (nI b)] μ = some (some (.int (mk (ledP PR KD p (sb b) (asC t)) n)), μ) := by
  have ho := P_oc h
  have hw := h.2.2.2.1
  have hn := PV_n h
  have h1n := h.2.2.1.1
  rcases (show t < 5 ∨ (5 ≤ t ∧ t < 9) ∨ (9 ≤ t ∧ t < 14) ∨ t = 14 ∨ 15 ≤ t by omega) with q | q | q | q | q
  · have e : asC t = t := by unfold asC; rw [if_pos (by omega)]
    rw [e, ← l_kind hw hn (by omega) q]
    simp (disch := first | omega | with_reducible assumption) only [D23, i23_0, i23_1, i23_2, i23_5, i23_6, i23_9, i23_10, i23_11, i23_12, i23_15, i23_16, i23_17, i23_18, i23_19, i23_20, P_finner h, P_inner h, P_fofKind h, P_ofKind h, b_v_s, b_i_s, b_n_s, b_r_s, b_r_n, b_m_s, b_c_s, b_c_v, n5, lt_t, if_true, Int32.sub_zero]
  · have e : asC t = t := by unfold asC; rw [if_pos (by omega)]
    rw [e, ← l_nth hw hn (by omega) q.1 (by omega)]
    have hi := C_innerFrom (b := b) (k := t - 5) h hb (by omega)
    simp (disch := first | omega | with_reducible assumption) only [D23, i23_0, i23_1, i23_2, i23_21, i23_22, i23_24, i23_27, i23_28, i23_29, i23_30, i23_31, i23_32, i23_35, i23_38, b_v_s, b_i_s, b_n_s, b_r_s, b_r_n, b_m_s, b_c_s, b_c_v, n5, n9, lt_t, lt_f, if_true, if_false, nI_minus, hi, E_leastOf]
  · have e : asC t = t + 6 := by unfold asC; rw [if_neg (by omega), if_pos (by omega)]
    have e2 : t - 9 = t + 6 - 15 := by omega
    rw [e, ← l_deep hn (by omega) (by omega), ← e2]
    simp (disch := first | omega | with_reducible assumption) only [D23, i23_0, i23_1, i23_2, i23_21, i23_22, i23_24, i23_39, i23_40, i23_42, i23_45, i23_46, i23_49, i23_50, i23_51, i23_52, i23_55, i23_56, i23_58, i23_59, i23_60, i23_61, P_fdeeper h, P_deeper h, P_fofKind h, P_ofKind h, b_v_s, b_i_s, b_n_s, b_r_s, b_r_n, b_m_s, b_c_s, b_c_v, n5, n9, n14, lt_t, lt_f, if_true, if_false, nI_minus]
  · subst q
    have e : asC 14 = 20 := by decide
    have hi := C_innerBehind (b := b) h hb
    rw [e]
    by_cases h0 : b = 0
    · subst h0
      rw [if_pos rfl] at hi
      rw [← l_next0 hw hn h1n]
      simp (disch := first | omega | with_reducible assumption) only [D23, i23_0, i23_1, i23_2, i23_21, i23_22, i23_24, i23_39, i23_40, i23_42, i23_62, i23_63, i23_65, i23_68, i23_69, i23_70, i23_73, i23_76, b_v_s, b_i_s, b_n_s, b_r_s, b_r_n, b_m_s, b_c_s, b_c_v, n5, n9, n14, lt_t, lt_f, eq_t, if_true, if_false, hi, E_leastOf]
      rfl
    · rw [if_neg h0] at hi
      rw [← l_next hw hn hb (by omega)]
      simp (disch := first | omega | with_reducible assumption) only [D23, i23_0, i23_1, i23_2, i23_21, i23_22, i23_24, i23_39, i23_40, i23_42, i23_62, i23_63, i23_65, i23_68, i23_69, i23_70, i23_73, i23_76, b_v_s, b_i_s, b_n_s, b_r_s, b_r_n, b_m_s, b_c_s, b_c_v, n5, n9, n14, lt_t, lt_f, eq_t, if_true, if_false, hi, E_leastOf]
  · have e : asC t = t - 6 := by unfold asC; rw [if_neg (by omega), if_neg (by omega), if_neg (by omega)]
    rw [e, ← l_nth hw hn (by omega) (by omega) (by omega)]
    have e2 : t - 6 - 5 = t - 15 + 4 := by omega
    have hi := C_innerFrom (b := b) (k := t - 15 + 4) h hb (by omega)
    rw [e2]
    simp (disch := first | omega | with_reducible assumption) only [D23, i23_0, i23_1, i23_2, i23_21, i23_22, i23_24, i23_39, i23_40, i23_42, i23_62, i23_63, i23_65, i23_77, i23_78, i23_79, i23_80, i23_82, i23_83, i23_84, i23_85, i23_88, i23_91, b_v_s, b_i_s, b_n_s, b_r_s, b_r_n, b_m_s, b_c_s, b_c_v, n4, n5, n9, n14, n15, lt_t, lt_f, eq_f, if_true, if_false, nI_minus, nI_plus, hi, E_leastOf]
theorem mk_lin' {PR KD : Nat → Int32} {p n t : Nat} {s : Int32} {f : Nat → Int32} (hn : n ≤ 24) (hs : ∀ b, bt s b = true → b < n) (hf : ∀ b, b < n → f b = mk (ledP PR KD p (sb b) t) n) : orU f s n = mk (ledP PR KD p s t) n := by
  refine b_ext' fun i hi => ?_
  rw [b_orU, b_mk _ (by omega), Bool.and_eq_true, decide_eq_true_eq, ledP_lin]
  constructor
  · rintro ⟨b, h1, h2, h3⟩
    rw [hf b h1, b_mk _ (by omega), Bool.and_eq_true, decide_eq_true_eq] at h3
    exact ⟨h3.1, b, by omega, h2, h3.2⟩
  · rintro ⟨h0, b, h1, h2, h3⟩
    have hb := hs b h2
    exact ⟨b, by omega, h2, by rw [hf b hb, b_mk _ (by omega), Bool.and_eq_true, decide_eq_true_eq]; exact ⟨h0, h3⟩⟩
theorem C_led {t : Nat} {s : Int32} (h : PV μ a p n PR KD WD) (ht : t < 21) (hs : ∀ b, bt s b = true → b < n) : m_D 22 [.ref a, .int (nI t), .int s] μ = some (some (.int (mk (ledP PR KD p s (asC t)) n)), μ) := by
  have ho := P_oc h
  have hn := PV_n h
  have L := loop1 (fun i => m_G 22 5 [.ref a, .int (nI t), .int s, .int (orU (fun b => mk (ledP PR KD p (sb b) (asC t)) n) s i), .int (nI i)] [] μ) n (fun i hi => by
    try dsimp only
    have hl := C_ledFrom (b := i) h hi ht
    rw [i22_5, orU]
    cases hb : bt s i with
    | false => simp (disch := first | omega | with_reducible assumption) only [i22_7, i22_8, i22_11, i22_14, i22_15, i22_17, i22_20, i22_23, i22_24, i22_25, i22_26, i22_28, i22_31, i22_32, i22_33, i22_36, P_size h, b_v_s, b_i_s, b_n_s, b_r_s, b_r_n, b_m_s, b_c_s, b_c_v, lt_t, if_true, E_isIn, bI_0, hb, nI_add1, Bool.false_eq_true, if_false, or_0]
    | true => simp (disch := first | omega | with_reducible assumption) only [i22_7, i22_8, i22_11, i22_14, i22_15, i22_17, i22_20, i22_23, i22_24, i22_25, i22_26, i22_28, i22_31, i22_32, i22_33, i22_36, P_size h, b_v_s, b_i_s, b_n_s, b_r_s, b_r_n, b_m_s, b_c_s, b_c_v, lt_t, if_true, E_isIn, bI_0, hb, nI_add1, Bool.true_eq_false, if_false, hl])
  simp only [D22, i22_0, i22_1, i22_2, i22_3, n0]
  refine (show _ = _ from L).trans ?_
  try dsimp only
  rw [i22_5, mk_lin' hn hs (fun b _ => rfl)]
  simp (disch := first | omega | with_reducible assumption) only [i22_7, i22_8, i22_11, i22_39, i22_40, P_size h, b_v_s, b_i_s, b_n_s, b_r_s, b_r_n, b_m_s, b_c_s, b_c_v, lt_f, if_false]
/-- the unlike words of a set, by their first boxes -/
def ulw (WD : Nat → Int32) (p n : Nat) (s : Int32) : Int32 := orU (fun b => sb (fal WD p b)) (s &&& mk (wordM WD p) n) n
theorem C_unlikeWords {s : Int32} (h : PV μ a p n PR KD WD) : m_D 27 [.ref a, .int s] μ = some (some (.int (ulw WD p n s)), μ) := by
  have hn := PV_n h
  have L := loop1 (fun i => m_G 27 4 [.ref a, .int s, .int (orU (fun b => sb (fal WD p b)) (s &&& mk (wordM WD p) n) i), .int (nI i)] [] μ) n (fun i hi => by
    try dsimp only
    rw [i27_4, orU]
    cases hb : bt (s &&& mk (wordM WD p) n) i with
    | false => simp (disch := first | omega | with_reducible assumption) only [i27_5, i27_6, i27_9, i27_12, i27_13, i27_14, i27_17, i27_18, i27_19, i27_22, i27_25, i27_26, i27_27, i27_28, i27_31, i27_32, i27_33, i27_34, i27_35, i27_36, i27_39, P_size h, P_worded h, b_v_s, b_i_s, b_n_s, b_r_s, b_r_n, b_m_s, b_c_s, b_c_v, lt_t, if_true, E_isIn, bI_0, hb, nI_add1, Bool.false_eq_true, if_false, or_0]
    | true => simp (disch := first | omega | with_reducible assumption) only [i27_5, i27_6, i27_9, i27_12, i27_13, i27_14, i27_17, i27_18, i27_19, i27_22, i27_25, i27_26, i27_27, i27_28, i27_31, i27_32, i27_33, i27_34, i27_35, i27_36, i27_39, P_size h, P_worded h, P_ffirstAlike h, P_firstAlike h, b_v_s, b_i_s, b_n_s, b_r_s, b_r_n, b_m_s, b_c_s, b_c_v, lt_t, if_true, E_isIn, bI_0, hb, nI_add1, Bool.true_eq_false, if_false, sb_def])
  simp only [D27, i27_0, i27_1, i27_2, i27_3, n0]
  refine (show _ = _ from L).trans ?_
  try dsimp only
  rw [i27_4]
  simp (disch := first | omega | with_reducible assumption) only [i27_5, i27_6, i27_9, i27_42, i27_43, P_size h, b_v_s, b_i_s, b_n_s, b_r_s, b_r_n, b_m_s, b_c_s, b_c_v, lt_f, if_false]
  rfl
def hsw (WD : Nat → Int32) (p n : Nat) (s w : Int32) : Bool := (fst (fun b => bt (s &&& mk (wordM WD p) n) b && decide (WD (24 * p + b) = w)) n 0).isSome
theorem C_hasWord {s w : Int32} (h : PV μ a p n PR KD WD) : m_D 28 [.ref a, .int s, .int w] μ = some (some (.int (bI (hsw WD p n s w))), μ) := by
  have hn := PV_n h
  have L := loop_ret (fun i => m_G 28 2 [.ref a, .int s, .int w, .int (nI i)] [] μ) (fun b => bt (s &&& mk (wordM WD p) n) b && decide (WD (24 * p + b) = w)) (fun _ => some (some (.int 1), μ)) (some (some (.int 0), μ)) n (fun i hi => by
    try dsimp only
    rw [i28_2]
    cases hb : bt (s &&& mk (wordM WD p) n) i with
    | false => simp (disch := first | omega | with_reducible assumption) only [i28_3, i28_4, i28_7, i28_10, i28_11, i28_12, i28_15, i28_16, i28_17, i28_20, i28_23, i28_24, i28_27, i28_28, i28_29, i28_30, i28_33, i28_34, i28_35, i28_38, P_size h, P_worded h, b_v_s, b_i_s, b_n_s, b_r_s, b_r_n, b_m_s, b_c_s, b_c_v, lt_t, if_true, E_isIn, bI_0, hb, nI_add1, Bool.false_and, Bool.false_eq_true, if_false, or_0]
    | true =>
      by_cases hq : WD (24 * p + i) = w
      · simp (disch := first | omega | decide | with_reducible assumption) only [i28_3, i28_4, i28_7, i28_10, i28_11, i28_12, i28_15, i28_16, i28_17, i28_20, i28_23, i28_24, i28_27, i28_28, i28_29, i28_30, i28_33, i28_34, i28_35, i28_38, P_size h, P_worded h, P_fwords h, P_words h, b_v_s, b_i_s, b_n_s, b_r_s, b_r_n, b_m_s, b_c_s, b_c_v, lt_t, if_true, E_isIn, bI_0, hb, nI_add1, Bool.true_eq_false, if_false, hq, decide_true, Bool.and_self]
      · simp (disch := first | omega | with_reducible assumption) only [i28_3, i28_4, i28_7, i28_10, i28_11, i28_12, i28_15, i28_16, i28_17, i28_20, i28_23, i28_24, i28_27, i28_28, i28_29, i28_30, i28_33, i28_34, i28_35, i28_38, P_size h, P_worded h, P_fwords h, P_words h, b_v_s, b_i_s, b_n_s, b_r_s, b_r_n, b_m_s, b_c_s, b_c_v, lt_t, if_true, E_isIn, bI_0, hb, nI_add1, Bool.true_eq_false, if_false, hq, decide_false, Bool.and_false, Bool.false_eq_true]) (by
    try dsimp only
    rw [i28_2]
    simp (disch := first | omega | decide | with_reducible assumption) only [i28_3, i28_4, i28_7, i28_41, i28_42, P_size h, b_v_s, b_i_s, b_n_s, b_r_s, b_r_n, b_m_s, b_c_s, b_c_v, lt_f, if_false])
  simp only [D28, i28_0, i28_1, n0]
  refine (show _ = _ from L).trans ?_
  unfold hsw
  cases fst (fun b => bt (s &&& mk (wordM WD p) n) b && decide (WD (24 * p + b) = w)) n 0 <;> rfl
theorem C_sharedWords {a' p' n' : Nat} {PR' KD' WD' : Nat → Int32} {s s' : Int32} (h : PV μ a p n PR KD WD) (h' : PV μ a' p' n' PR' KD' WD') : m_D 29 [.ref a, .int s, .ref a', .int s'] μ = some (some (.int (mk (fun b => bt (s &&& mk (wordM WD p) n) b && hsw WD' p' n' s' (WD (24 * p + b))) n)), μ) := by
  have hn := PV_n h
  have ho := P_oc h'
  have L := loop1 (fun i => m_G 29 6 [.ref a, .int s, .ref a', .int s', .int (mk (fun b => bt (s &&& mk (wordM WD p) n) b && hsw WD' p' n' s' (WD (24 * p + b))) i), .int (nI i)] [] μ) n (fun i hi => by
    try dsimp only
    have hh := C_hasWord (s := s') (w := WD (24 * p + i)) h'
    rw [i29_6, mk]
    cases hb : bt (s &&& mk (wordM WD p) n) i with
    | false => simp (disch := first | omega | with_reducible assumption) only [i29_8, i29_9, i29_12, i29_15, i29_16, i29_17, i29_20, i29_21, i29_23, i29_26, i29_29, i29_30, i29_31, i29_32, i29_35, i29_37, i29_38, i29_41, i29_44, i29_46, i29_47, i29_49, i29_50, i29_51, i29_53, i29_56, P_size h, P_worded h, b_v_s, b_i_s, b_n_s, b_r_s, b_r_n, b_m_s, b_c_s, b_c_v, lt_t, if_true, E_isIn, bI_0, hb, nI_add1, Bool.false_and, Bool.false_eq_true, if_false, or_0]
    | true =>
      cases hq : hsw WD' p' n' s' (WD (24 * p + i)) with
      | false =>
        rw [hq] at hh
        simp (disch := first | omega | with_reducible assumption) only [i29_8, i29_9, i29_12, i29_15, i29_16, i29_17, i29_20, i29_21, i29_23, i29_26, i29_29, i29_30, i29_31, i29_32, i29_35, i29_37, i29_38, i29_41, i29_44, i29_46, i29_47, i29_49, i29_50, i29_51, i29_53, i29_56, P_size h, P_worded h, P_fwords h, P_words h, b_v_s, b_i_s, b_n_s, b_r_s, b_r_n, b_m_s, b_c_s, b_c_v, lt_t, if_true, E_isIn, bI_0, hb, hh, nI_add1, Bool.true_eq_false, if_false, Bool.and_false, Bool.false_eq_true, or_0]
      | true =>
        rw [hq] at hh
        simp (disch := first | omega | with_reducible assumption) only [i29_8, i29_9, i29_12, i29_15, i29_16, i29_17, i29_20, i29_21, i29_23, i29_26, i29_29, i29_30, i29_31, i29_32, i29_35, i29_37, i29_38, i29_41, i29_44, i29_46, i29_47, i29_49, i29_50, i29_51, i29_53, i29_56, P_size h, P_worded h, P_fwords h, P_words h, b_v_s, b_i_s, b_n_s, b_r_s, b_r_n, b_m_s, b_c_s, b_c_v, lt_t, if_true, E_isIn, bI_0, hb, hh, nI_add1, Bool.true_eq_false, if_false, Bool.and_self, sb_def])
  simp only [D29, i29_0, i29_1, i29_3, i29_4, n0]
  refine (show _ = _ from L).trans ?_
  try dsimp only
  rw [i29_6]
  simp (disch := first | omega | with_reducible assumption) only [i29_8, i29_9, i29_12, i29_59, i29_61, P_size h, b_v_s, b_i_s, b_n_s, b_r_s, b_r_n, b_m_s, b_c_s, b_c_v, lt_f, if_false]
end cled
/-! rules of the class -/
def TRu (r : Nat) : Tm := [none, some (some (r + 1))]
def RV (μ : mM) (r rr k q : Nat) (RT : Nat → Int32) : Prop := isO μ r 6 (TRu r) ∧ isA μ (r + 1) 0 k ∧ FI μ r 0 = nI q ∧ q ≤ 5 ∧ k ≤ 6 ∧ ∀ j, j < k → ∃ t, t < 21 ∧ A μ (r + 1) j = nI t ∧ asC t = stp RT rr j
theorem RV_K {X : List Nat} {Y : List (Nat × Nat)} {μ ν : mM} {r rr k q : Nat} {RT : Nat → Int32} (h : RV μ r rr k q RT) (s : K X Y μ ν) (hX : r + 1 ∉ X) (hY : (r, 0) ∉ Y) : RV ν r rr k q RT := ⟨K_isO s h.1, K_isA s h.2.1, by rw [K_FI s hY]; exact h.2.2.1, h.2.2.2.1, h.2.2.2.2.1, by rw [K_A s hX]; exact h.2.2.2.2.2⟩
theorem gv_lt {PR KD RT : Nat → Int32} {r p n : Nat} {s : Int32} (hn : n ≤ 24) (hs : ∀ b, bt s b = true → b < n) (j : Nat) : ∀ b, bt (gv PR KD RT r p n s j) b = true → b < n := by
  cases j with
  | zero => exact hs
  | succ j => intro b h; rw [gv, b_mk _ (by omega), Bool.and_eq_true, decide_eq_true_eq] at h; exact h.1
section crule
variable {μ : mM} {a p n r rr k q : Nat} {PR KD WD RT : Nat → Int32}
theorem C_drawn {s : Int32} (h : PV μ a p n PR KD WD) (hr : RV μ r rr k q RT) (hs : ∀ b, bt s b = true → b < n) : m_D 49 [.ref r, .ref a, .int s] μ = some (some (.int (srt q (gv PR KD RT rr p n s k) (mk (rowsM PR p n) n) (mk (wordM WD p) n))), μ) := by
  obtain ⟨r1, r2, r3, r4, r5, r6⟩ := hr
  have ho := P_oc h
  have hn := PV_n h
  have f0 : m_gf μ r 6 0 = some (.int (nI q)) := by rw [gO (e := none) r1 rfl, tmv, r3]
  have f1 : m_gf μ r 6 1 = some (.ref (r + 1)) := gO (e := some (some (r + 1))) r1 rfl
  have fl := ln_A r2
  have L := loop1 (fun i => m_G 49 5 [.ref r, .ref a, .int s, .int (gv PR KD RT rr p n s i), .int (nI i)] [] μ) k (fun i hi => by
    try dsimp only
    obtain ⟨t, t1, t2, t3⟩ := r6 i hi
    have hl := C_led (t := t) (s := gv PR KD RT rr p n s i) h t1 (gv_lt hn hs i)
    rw [t3] at hl
    have hg := ga_A r2 hi (by omega)
    rw [t2] at hg
    rw [i49_5, gv]
    simp (disch := first | omega | with_reducible assumption) only [i49_7, i49_8, i49_11, i49_12, i49_15, i49_16, i49_17, i49_20, i49_22, i49_23, i49_24, i49_27, i49_28, i49_31, f1, fl, hg, hl, b_v_s, b_i_s, b_n_s, b_r_s, b_r_n, b_m_s, b_c_s, b_c_v, nN, lt_t, if_true, nI_add1])
  simp only [D49, i49_0, i49_1, i49_2, i49_3, n0]
  refine (show _ = _ from L).trans ?_
  try dsimp only
  rw [i49_5]
  simp (disch := first | omega | with_reducible assumption) only [i49_7, i49_8, i49_11, i49_12, i49_34, i49_35, i49_36, i49_39, i49_40, i49_42, i49_43, f0, f1, fl, P_holders h, b_v_s, b_i_s, b_n_s, b_r_s, b_r_n, b_m_s, b_c_s, b_c_v, nN, lt_f, if_false]
  rcases (show q = 0 ∨ q = 1 ∨ q = 2 ∨ q = 3 ∨ q = 4 ∨ q = 5 by omega) with rfl | rfl | rfl | rfl | rfl | rfl
  · rw [i49_46_d (Or.inl (by decide))]; simp only [i49_80, i49_82, i49_83, i49_84, i49_87, i49_88, i49_89, i49_90, i49_93, i49_94, i49_95, i49_97, i49_100, i49_101, i49_103, i49_105, i49_106, i49_107, i49_108, i49_109, i49_110]; rfl
  · rw [show nI 1 = 1 from rfl]; simp only [i49_46_1, i49_46_2, i49_46_3, i49_46_4, i49_46_5, i49_46_d, i49_80, i49_82, i49_83, i49_84, i49_87, i49_88, i49_89, i49_90, i49_93, i49_94, i49_95, i49_97, i49_100, i49_101, i49_103, i49_105, i49_106, i49_107, i49_108, i49_109, i49_110]; rfl
  · rw [show nI 2 = 2 from rfl]; simp only [i49_46_1, i49_46_2, i49_46_3, i49_46_4, i49_46_5, i49_46_d, i49_80, i49_82, i49_83, i49_84, i49_87, i49_88, i49_89, i49_90, i49_93, i49_94, i49_95, i49_97, i49_100, i49_101, i49_103, i49_105, i49_106, i49_107, i49_108, i49_109, i49_110, E_leastOf, b_v_s, b_i_s, b_n_s, b_r_s, b_r_n, b_m_s, b_c_s, b_c_v]; rfl
  · rw [show nI 3 = 3 from rfl]; simp only [i49_46_1, i49_46_2, i49_46_3, i49_46_4, i49_46_5, i49_46_d, i49_80, i49_82, i49_83, i49_84, i49_87, i49_88, i49_89, i49_90, i49_93, i49_94, i49_95, i49_97, i49_100, i49_101, i49_103, i49_105, i49_106, i49_107, i49_108, i49_109, i49_110, P_worded h, b_v_s, b_i_s, b_n_s, b_r_s, b_r_n, b_m_s, b_c_s, b_c_v]; rfl
  · rw [show nI 4 = 4 from rfl]; simp only [i49_46_1, i49_46_2, i49_46_3, i49_46_4, i49_46_5, i49_46_d, i49_80, i49_82, i49_83, i49_84, i49_87, i49_88, i49_89, i49_90, i49_93, i49_94, i49_95, i49_97, i49_100, i49_101, i49_103, i49_105, i49_106, i49_107, i49_108, i49_109, i49_110, E_leastOf, b_v_s, b_i_s, b_n_s, b_r_s, b_r_n, b_m_s, b_c_s, b_c_v]; rfl
  · rw [show nI 5 = 5 from rfl]; simp only [i49_46_1, i49_46_2, i49_46_3, i49_46_4, i49_46_5, i49_46_d, i49_80, i49_82, i49_83, i49_84, i49_87, i49_88, i49_89, i49_90, i49_93, i49_94, i49_95, i49_97, i49_100, i49_101, i49_103, i49_105, i49_106, i49_107, i49_108, i49_109, i49_110]; rfl
theorem C_nth {s i : Int32} : m_D 98 [.int s, .int i] μ = some (some (.int (nthS s i)), μ) := by
  have L := loop_ret (fun b => m_G 98 4 [.int s, .int i, .int (nI (cnt (bt s) b)), .int (nI b)] [] μ) (fun b => bt s b && decide (nI (cnt (bt s) b) = i)) (fun b => some (some (.int (nI b)), μ)) (some (some (.int (-1)), μ)) 24 (fun b hb => by
    try dsimp only
    rw [i98_4, cnt]
    cases hbt : bt s b with
    | false => simp (disch := first | omega | with_reducible assumption) only [i98_5, i98_7, i98_10, i98_11, i98_12, i98_15, i98_18, i98_19, i98_20, i98_23, i98_24, i98_25, i98_28, i98_31, b_v_s, b_i_s, b_n_s, b_r_s, b_r_n, b_m_s, b_c_s, b_c_v, E_isIn, n24, lt_t, if_true, bI_0, nI_add1, hbt, Bool.false_and, Bool.false_eq_true, if_false, Nat.add_zero]
    | true =>
      by_cases e : nI (cnt (bt s) b) = i
      · simp (disch := first | omega | with_reducible assumption) only [i98_5, i98_7, i98_10, i98_11, i98_12, i98_15, i98_18, i98_19, i98_20, i98_23, i98_24, i98_25, i98_28, i98_31, b_v_s, b_i_s, b_n_s, b_r_s, b_r_n, b_m_s, b_c_s, b_c_v, E_isIn, n24, lt_t, if_true, bI_0, nI_add1, hbt, e, Bool.true_eq_false, if_false, decide_true, Bool.and_self]
      · simp (disch := first | omega | with_reducible assumption) only [i98_5, i98_7, i98_10, i98_11, i98_12, i98_15, i98_18, i98_19, i98_20, i98_23, i98_24, i98_25, i98_28, i98_31, b_v_s, b_i_s, b_n_s, b_r_s, b_r_n, b_m_s, b_c_s, b_c_v, E_isIn, n24, lt_t, if_true, bI_0, nI_add1, hbt, e, Bool.true_eq_false, if_false, decide_false, Bool.and_false, Bool.false_eq_true]) (by
    try dsimp only
    rw [i98_4]
    simp (disch := first | omega | with_reducible assumption) only [i98_5, i98_7, i98_10, i98_11, i98_12, i98_15, i98_18, i98_19, i98_20, i98_23, i98_24, i98_25, i98_28, i98_31, i98_34, i98_35, n24, lt_f, if_false])
  simp only [D98, i98_0, i98_1, i98_2, i98_3, n0]
  refine (show _ = _ from L).trans ?_
  unfold nthS
  cases fst (fun b => bt s b && decide (nI (cnt (bt s) b) = i)) 24 0 <;> rfl
end crule
