/-! the model's leaves -/
theorem lt_t {a b : Nat} (h : a < b) (hb : b < 2147483648) : (nI a < nI b) = True := eq_true (nI_lt h (by omega))
theorem lt_f {a b : Nat} (h : b ≤ a) (ha : a < 2147483648) : (nI a < nI b) = False := eq_false (nI_nlt h (by omega))
theorem eq_t {a b : Nat} (h : a = b) : (nI a = nI b) = True := eq_true (by rw [h])
theorem eq_f {a b : Nat} (h : a ≠ b) (ha : a < 2147483648) (hb : b < 2147483648) : (nI a = nI b) = False := by rw [nI_eqE ha hb]; exact eq_false h
theorem nI_ne1 {a : Nat} (ha : a < 2147483648) : (nI a = -1) = False := eq_false (fun h => by
  have := congrArg Int32.toInt h
  rw [nI_toInt ha] at this
  have e : (-1 : Int32).toInt = -1 := by decide
  omega)
theorem pos_t {a : Nat} (ha : a < 2147483648) : (nI a < 0) = False := eq_false (nI_pos ha)
theorem n24 : (24 : Int32) = nI 24 := rfl
section model1
variable {μ : mM}
theorem E_isPage {x : Int32} {np : Nat} (h : MS μ) (hp : FI μ 19 0 = nI np) (hn : np ≤ 100) : m_D 105 [.ref 19, .int x] μ = some (some (.int (bI (inR x np))), μ) := by
  simp only [D105, i105_0, i105_1, i105_2, i105_3, i105_4, i105_7, i105_8, i105_9, i105_10, i105_13, gM0 h, b_v_s, b_i_s, b_n_s, b_r_s, b_r_n, b_m_s, b_c_s, b_c_v, E_in, toInt_i2l, hp, bI_and]
  have e1 : (0 : Int64).toInt = 0 := by decide
  have e2 : (nI np - 1).toInt = (np : Int) - 1 := by
    cases np with
    | zero => decide
    | succ n => rw [nI_m1, nI_toInt (by omega)]; omega
  rw [e1, e2]
  have : (decide ((0 : Int) ≤ x.toInt) && decide (x.toInt ≤ (np : Int) - 1)) = inR x np := by
    unfold inR
    rw [← Bool.decide_and]
    congr 1
    exact propext ⟨fun q => ⟨q.1, by omega⟩, fun q => ⟨q.1, by omega⟩⟩
  rw [this]
theorem E_isRule {x : Int32} {nr : Nat} (h : MS μ) (hp : FI μ 19 17 = nI nr) (hn : nr ≤ 100) : m_D 117 [.ref 19, .int x] μ = some (some (.int (bI (inR x nr))), μ) := by
  simp only [D117, i117_0, i117_1, i117_2, i117_3, i117_4, i117_7, i117_8, i117_9, i117_10, i117_13, gM17 h, b_v_s, b_i_s, b_n_s, b_r_s, b_r_n, b_m_s, b_c_s, b_c_v, E_in, toInt_i2l, hp, bI_and]
  have e1 : (0 : Int64).toInt = 0 := by decide
  have e2 : (nI nr - 1).toInt = (nr : Int) - 1 := by
    cases nr with
    | zero => decide
    | succ n => rw [nI_m1, nI_toInt (by omega)]; omega
  rw [e1, e2]
  have : (decide ((0 : Int) ≤ x.toInt) && decide (x.toInt ≤ (nr : Int) - 1)) = inR x nr := by
    unfold inR
    rw [← Bool.decide_and]
    congr 1
    exact propext ⟨fun q => ⟨q.1, by omega⟩, fun q => ⟨q.1, by omega⟩⟩
  rw [this]
theorem E_innerMany {p n : Nat} {b : Int32} (h : MS μ) (hp : p < 8) (hn : n ≤ 24) (hb : A μ 20 p = nI n) : m_D 119 [.ref 19, .int (nI p), .int b] μ = some (some (.int (nI (cnt (fun c => decide (A μ 23 (24 * p + c) = b)) n))), μ) := by
  have L := loop_up (fun i (c : Nat) => m_G 119 5 [.ref 19, .int (nI p), .int b, .int (nI c), .int (nI i)] [] μ) (fun i c => c + (if decide (A μ 23 (24 * p + i) = b) = true then 1 else 0)) (fun i c => c ≤ i) n 0 (Nat.le_refl 0) (fun i c hi hc => ⟨by
    try dsimp only
    rw [i119_5]
    simp (disch := omega) only [i119_0, i119_1, i119_2, i119_3, i119_7, i119_8, i119_11, i119_12, i119_13, i119_16, i119_17, i119_18, i119_21, i119_23, i119_24, i119_25, i119_27, i119_28, i119_29, i119_30, i119_33, i119_34, i119_37, i119_38, i119_39, i119_40, i119_43, i119_46, i119_47, gM1 h, ga_A (aM20 h), gM4 h, ga_A (aM23 h), b_v_s, b_i_s, b_n_s, b_r_s, b_r_n, b_m_s, b_c_s, b_c_v, hb, lt_t, if_true, k24, nI_add1, decide_eq_true_eq]
    split
    · simp only [i119_0, i119_1, i119_2, i119_3, i119_7, i119_8, i119_11, i119_12, i119_13, i119_16, i119_17, i119_18, i119_21, i119_23, i119_24, i119_25, i119_27, i119_28, i119_29, i119_30, i119_33, i119_34, i119_37, i119_38, i119_39, i119_40, i119_43, i119_46, i119_47, nI_add1, nI_plus, n1]
    · simp only [i119_0, i119_1, i119_2, i119_3, i119_7, i119_8, i119_11, i119_12, i119_13, i119_16, i119_17, i119_18, i119_21, i119_23, i119_24, i119_25, i119_27, i119_28, i119_29, i119_30, i119_33, i119_34, i119_37, i119_38, i119_39, i119_40, i119_43, i119_46, i119_47, nI_add1, nI_plus, n0], by split <;> omega⟩)
  simp only [D119, i119_0, i119_1, i119_2, i119_3, i119_7, i119_8, i119_11, i119_12, i119_13, i119_16, i119_17, i119_18, i119_21, i119_23, i119_24, i119_25, i119_27, i119_28, i119_29, i119_30, i119_33, i119_34, i119_37, i119_38, i119_39, i119_40, i119_43, i119_46, i119_47, n0]
  rw [L.1, i119_5]
  simp (disch := omega) only [i119_0, i119_1, i119_2, i119_3, i119_7, i119_8, i119_11, i119_12, i119_13, i119_16, i119_17, i119_18, i119_21, i119_23, i119_24, i119_25, i119_27, i119_28, i119_29, i119_30, i119_33, i119_34, i119_37, i119_38, i119_39, i119_40, i119_43, i119_46, i119_47, gM1 h, ga_A (aM20 h), gM4 h, ga_A (aM23 h), b_v_s, b_i_s, b_n_s, b_r_s, b_r_n, b_m_s, b_c_s, b_c_v, hb, lt_f, if_false]
  have e : ∀ k, it (fun i c => c + (if decide (A μ 23 (24 * p + i) = b) = true then 1 else 0)) k 0 = cnt (fun c => decide (A μ 23 (24 * p + c) = b)) k := by
    intro k
    induction k with
    | zero => rfl
    | succ k ih => rw [it, ih]; rfl
  rw [e]
end model1
