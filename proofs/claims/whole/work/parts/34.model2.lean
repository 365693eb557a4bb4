/-! loops of a closed form, and the model's searches -/
theorem loop1 {X : Type} (cfg : Nat → X) (n : Nat) (h : ∀ i, i < n → cfg i = cfg (i + 1)) : cfg 0 = cfg n := by
  have key : ∀ k, k ≤ n → cfg 0 = cfg k := by
    intro k
    induction k with
    | zero => intro _; rfl
    | succ k ih => intro hk; exact (ih (by omega)).trans (h k (by omega))
  exact key n (Nat.le_refl n)
/-- the first below n, from i on -/
def fst (P : Nat → Bool) : Nat → Nat → Option Nat
  | 0, _ => none
  | r + 1, i => if P i = true then some i else fst P r (i + 1)
theorem fst_congr {P Q : Nat → Bool} : ∀ (r i : Nat), (∀ k, i ≤ k → k < i + r → P k = Q k) → fst P r i = fst Q r i := by
  intro r
  induction r with
  | zero => intro i _; rfl
  | succ r ih =>
    intro i h
    rw [fst, fst, h i (Nat.le_refl i) (by omega), ih (i + 1) (fun k h1 h2 => h k (by omega) (by omega))]
theorem fst_some {P : Nat → Bool} : ∀ (r i k : Nat), fst P r i = some k → i ≤ k ∧ k < i + r ∧ P k = true ∧ ∀ j, i ≤ j → j < k → P j = false := by
  intro r
  induction r with
  | zero => intro i k h; cases h
  | succ r ih =>
    intro i k h
    rw [fst] at h
    split at h
    · rename_i hp
      cases h
      exact ⟨Nat.le_refl i, by omega, hp, fun j h1 h2 => by omega⟩
    · rename_i hp
      obtain ⟨h1, h2, h3, h4⟩ := ih (i + 1) k h
      refine ⟨by omega, by omega, h3, fun j j1 j2 => ?_⟩
      by_cases q : j = i
      · subst q; simpa using hp
      · exact h4 j (by omega) j2
theorem fst_none {P : Nat → Bool} : ∀ (r i : Nat), fst P r i = none → ∀ j, i ≤ j → j < i + r → P j = false := by
  intro r
  induction r with
  | zero => intro i _ j h1 h2; omega
  | succ r ih =>
    intro i h j h1 h2
    rw [fst] at h
    split at h
    · cases h
    · rename_i hp
      by_cases q : j = i
      · subst q; simpa using hp
      · exact ih (i + 1) h j (by omega) (by omega)
theorem loop_ret {X : Type} (cfg : Nat → X) (P : Nat → Bool) (out : Nat → X) (fin : X) (n : Nat) (hs : ∀ i, i < n → cfg i = if P i = true then out i else cfg (i + 1)) (hf : cfg n = fin) : cfg 0 = match fst P n 0 with
    | some i => out i
    | none => fin := by
  have key : ∀ r i, i + r = n → cfg i = match fst P r i with
      | some i => out i
      | none => fin := by
    intro r
    induction r with
    | zero => intro i h; rw [show i = n by omega, hf]; rfl
    | succ r ih =>
      intro i h
      rw [hs i (by omega), fst]
      by_cases q : P i = true
      · rw [if_pos q, if_pos q]
      · rw [if_neg q, if_neg q]; exact ih (i + 1) (by omega)
  exact key n 0 (by omega)
/-- the last below n of a kind, as the program tells it -/
def lst (P : Nat → Bool) : Nat → Int32
  | 0 => -1
  | n + 1 => if P n = true then nI n else lst P n
theorem nI_dec (i : Int32) (c : Nat) : i - nI c + -1 = i - nI (c + 1) := by rw [nI_succ, Int32.sub_eq_add_neg, Int32.sub_eq_add_neg, Int32.neg_add, Int32.add_assoc, Int32.sub_eq_add_neg (-nI c)]
section model2
variable {μ : mM}
theorem E_placeIn {p b : Nat} (h : MS μ) (hp : p < 8) (hb : b < 24) : m_D 124 [.ref 19, .int (nI p), .int (nI b)] μ = some (some (.int (nI (cnt (fun c => decide (A μ 23 (24 * p + c) = A μ 23 (24 * p + b))) b))), μ) := by
  have L := loop1 (fun i => m_G 124 5 [.ref 19, .int (nI p), .int (nI b), .int (nI (cnt (fun c => decide (A μ 23 (24 * p + c) = A μ 23 (24 * p + b))) i)), .int (nI i)] [] μ) b (fun i hi => by
    try dsimp only
    rw [i124_5, cnt]
    simp (disch := omega) only [i124_0, i124_1, i124_2, i124_3, i124_7, i124_8, i124_11, i124_12, i124_13, i124_16, i124_18, i124_19, i124_20, i124_22, i124_23, i124_24, i124_25, i124_28, i124_30, i124_31, i124_32, i124_33, i124_34, i124_35, i124_38, i124_39, i124_42, i124_43, i124_44, i124_45, i124_48, i124_51, i124_52, gM4 h, ga_A (aM23 h), b_v_s, b_i_s, b_n_s, b_r_s, b_r_n, b_m_s, b_c_s, b_c_v, lt_t, if_true, k24, nI_add1, decide_eq_true_eq]
    split
    · simp only [i124_0, i124_1, i124_2, i124_3, i124_7, i124_8, i124_11, i124_12, i124_13, i124_16, i124_18, i124_19, i124_20, i124_22, i124_23, i124_24, i124_25, i124_28, i124_30, i124_31, i124_32, i124_33, i124_34, i124_35, i124_38, i124_39, i124_42, i124_43, i124_44, i124_45, i124_48, i124_51, i124_52, nI_add1, nI_plus, n1]
    · simp only [i124_0, i124_1, i124_2, i124_3, i124_7, i124_8, i124_11, i124_12, i124_13, i124_16, i124_18, i124_19, i124_20, i124_22, i124_23, i124_24, i124_25, i124_28, i124_30, i124_31, i124_32, i124_33, i124_34, i124_35, i124_38, i124_39, i124_42, i124_43, i124_44, i124_45, i124_48, i124_51, i124_52, nI_add1, nI_plus, n0])
  simp only [D124, i124_0, i124_1, i124_2, i124_3, i124_7, i124_8, i124_11, i124_12, i124_13, i124_16, i124_18, i124_19, i124_20, i124_22, i124_23, i124_24, i124_25, i124_28, i124_30, i124_31, i124_32, i124_33, i124_34, i124_35, i124_38, i124_39, i124_42, i124_43, i124_44, i124_45, i124_48, i124_51, i124_52, n0]
  rw [show (.int (nI 0) : Value) = .int (nI (cnt (fun c => decide (A μ 23 (24 * p + c) = A μ 23 (24 * p + b))) 0)) from rfl] at *
  refine L.trans ?_
  try dsimp only
  rw [i124_5]
  simp (disch := omega) only [i124_0, i124_1, i124_2, i124_3, i124_7, i124_8, i124_11, i124_12, i124_13, i124_16, i124_18, i124_19, i124_20, i124_22, i124_23, i124_24, i124_25, i124_28, i124_30, i124_31, i124_32, i124_33, i124_34, i124_35, i124_38, i124_39, i124_42, i124_43, i124_44, i124_45, i124_48, i124_51, i124_52, lt_f, if_false]
theorem E_aheadOf {p b : Nat} (h : MS μ) (hp : p < 8) (hb : b < 24) : m_D 125 [.ref 19, .int (nI p), .int (nI b)] μ = some (some (.int (lst (fun c => decide (A μ 23 (24 * p + c) = A μ 23 (24 * p + b))) b)), μ) := by
  have L := loop1 (fun i => m_G 125 5 [.ref 19, .int (nI p), .int (nI b), .int (lst (fun c => decide (A μ 23 (24 * p + c) = A μ 23 (24 * p + b))) i), .int (nI i)] [] μ) b (fun i hi => by
    try dsimp only
    rw [i125_5, lst]
    simp (disch := omega) only [i125_0, i125_1, i125_2, i125_3, i125_7, i125_8, i125_11, i125_12, i125_15, i125_17, i125_18, i125_19, i125_21, i125_22, i125_23, i125_24, i125_27, i125_29, i125_30, i125_31, i125_32, i125_33, i125_34, i125_37, i125_39, i125_42, i125_43, i125_44, i125_47, i125_50, i125_51, gM4 h, ga_A (aM23 h), b_v_s, b_i_s, b_n_s, b_r_s, b_r_n, b_m_s, b_c_s, b_c_v, lt_t, if_true, k24, nI_add1, decide_eq_true_eq]
    split <;> simp only [i125_0, i125_1, i125_2, i125_3, i125_7, i125_8, i125_11, i125_12, i125_15, i125_17, i125_18, i125_19, i125_21, i125_22, i125_23, i125_24, i125_27, i125_29, i125_30, i125_31, i125_32, i125_33, i125_34, i125_37, i125_39, i125_42, i125_43, i125_44, i125_47, i125_50, i125_51, nI_add1])
  simp only [D125, i125_0, i125_1, i125_2, i125_3, i125_7, i125_8, i125_11, i125_12, i125_15, i125_17, i125_18, i125_19, i125_21, i125_22, i125_23, i125_24, i125_27, i125_29, i125_30, i125_31, i125_32, i125_33, i125_34, i125_37, i125_39, i125_42, i125_43, i125_44, i125_47, i125_50, i125_51, n0]
  refine L.trans ?_
  try dsimp only
  rw [i125_5]
  simp (disch := omega) only [i125_0, i125_1, i125_2, i125_3, i125_7, i125_8, i125_11, i125_12, i125_15, i125_17, i125_18, i125_19, i125_21, i125_22, i125_23, i125_24, i125_27, i125_29, i125_30, i125_31, i125_32, i125_33, i125_34, i125_37, i125_39, i125_42, i125_43, i125_44, i125_47, i125_50, i125_51, lt_f, if_false]
theorem E_marked {p n : Nat} {as : Int32} (h : MS μ) (hp : p < 8) (hn : n ≤ 24) (hb : A μ 20 p = nI n) : m_D 134 [.ref 19, .int (nI p), .int as] μ = some (some (.int (mk (fun b => decide (A μ 24 (24 * p + b) = as)) n)), μ) := by
  have L := loop1 (fun i => m_G 134 5 [.ref 19, .int (nI p), .int as, .int (mk (fun b => decide (A μ 24 (24 * p + b) = as)) i), .int (nI i)] [] μ) n (fun i hi => by
    try dsimp only
    rw [i134_5, mk]
    simp (disch := omega) only [i134_0, i134_1, i134_2, i134_3, i134_7, i134_8, i134_11, i134_12, i134_13, i134_16, i134_17, i134_18, i134_21, i134_23, i134_24, i134_25, i134_27, i134_28, i134_29, i134_30, i134_33, i134_34, i134_36, i134_37, i134_40, i134_41, i134_42, i134_43, i134_46, i134_49, i134_50, gM5 h, ga_A (aM24 h), gM1 h, ga_A (aM20 h), b_v_s, b_i_s, b_n_s, b_r_s, b_r_n, b_m_s, b_c_s, b_c_v, hb, lt_t, if_true, k24, nI_add1, decide_eq_true_eq, sb_def]
    split <;> simp only [i134_0, i134_1, i134_2, i134_3, i134_7, i134_8, i134_11, i134_12, i134_13, i134_16, i134_17, i134_18, i134_21, i134_23, i134_24, i134_25, i134_27, i134_28, i134_29, i134_30, i134_33, i134_34, i134_36, i134_37, i134_40, i134_41, i134_42, i134_43, i134_46, i134_49, i134_50, nI_add1])
  simp only [D134, i134_0, i134_1, i134_2, i134_3, i134_7, i134_8, i134_11, i134_12, i134_13, i134_16, i134_17, i134_18, i134_21, i134_23, i134_24, i134_25, i134_27, i134_28, i134_29, i134_30, i134_33, i134_34, i134_36, i134_37, i134_40, i134_41, i134_42, i134_43, i134_46, i134_49, i134_50, n0]
  refine L.trans ?_
  try dsimp only
  rw [i134_5]
  simp (disch := omega) only [i134_0, i134_1, i134_2, i134_3, i134_7, i134_8, i134_11, i134_12, i134_13, i134_16, i134_17, i134_18, i134_21, i134_23, i134_24, i134_25, i134_27, i134_28, i134_29, i134_30, i134_33, i134_34, i134_36, i134_37, i134_40, i134_41, i134_42, i134_43, i134_46, i134_49, i134_50, gM5 h, ga_A (aM24 h), gM1 h, ga_A (aM20 h), b_v_s, b_i_s, b_n_s, b_r_s, b_r_n, b_m_s, b_c_s, b_c_v, hb, lt_f, if_false]
/-- the box at place i of a set, as the program tells it -/
def nthS (s i : Int32) : Int32 := match fst (fun b => bt s b && decide (nI (cnt (bt s) b) = i)) 24 0 with
  | some b => nI b
  | none => -1
theorem E_nthM {s i : Int32} : m_D 129 [.int s, .int i] μ = some (some (.int (nthS s i)), μ) := by
  have L := loop_ret (fun b => m_G 129 4 [.int s, .int i, .int (i - nI (cnt (bt s) b)), .int (nI b)] [] μ) (fun b => bt s b && decide (nI (cnt (bt s) b) = i)) (fun b => some (some (.int (nI b)), μ)) (some (some (.int (-1)), μ)) 24 (fun b hb => by
    try dsimp only
    rw [i129_4, cnt]
    simp (disch := omega) only [i129_0, i129_1, i129_2, i129_3, i129_5, i129_7, i129_10, i129_11, i129_12, i129_15, i129_18, i129_19, i129_22, i129_23, i129_24, i129_27, i129_30, i129_33, i129_34, b_v_s, b_i_s, b_n_s, b_r_s, b_r_n, b_m_s, b_c_s, b_c_v, E_has, n24, lt_t, if_true, bI_0, nI_add1]
    cases hbt : bt s b with
    | false => simp
    | true =>
      have e : (i - nI (cnt (bt s) b) = 0) = (nI (cnt (bt s) b) = i) := propext ⟨fun q => by rw [Int32.sub_eq_iff_eq_add] at q; rw [q]; simp, fun q => by rw [q]; simp⟩
      simp only [e, Bool.true_and, decide_eq_true_eq, Bool.true_eq_false, if_false, if_true, nI_dec]) (by
    try dsimp only
    rw [i129_4]
    simp (disch := omega) only [i129_0, i129_1, i129_2, i129_3, i129_5, i129_7, i129_10, i129_11, i129_12, i129_15, i129_18, i129_19, i129_22, i129_23, i129_24, i129_27, i129_30, i129_33, i129_34, n24, lt_f, if_false])
  simp only [D129, i129_0, i129_1, i129_2, i129_3, i129_5, i129_7, i129_10, i129_11, i129_12, i129_15, i129_18, i129_19, i129_22, i129_23, i129_24, i129_27, i129_30, i129_33, i129_34, n0]
  have e : i = i - nI (cnt (bt s) 0) := by rw [cnt, nI_0]; simp
  refine (congrArg (fun v => m_G 129 4 [.int s, .int i, .int v, .int (nI 0)] [] μ) e).trans (L.trans ?_)
  unfold nthS
  cases fst (fun b => bt s b && decide (nI (cnt (bt s) b) = i)) 24 0 <;> rfl
end model2
