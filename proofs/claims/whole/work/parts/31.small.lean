section small
variable {μ : mM}
theorem E_isIn {s : Int32} {k : Nat} (hk : k < 32) : m_D 96 [.int s, .int (nI k)] μ = some (some (.int (bI (bt s k))), μ) := by
  simp only [D96, i96_0, i96_1, i96_2, i96_3, i96_4, i96_5, i96_8, i96_9, i96_12, i96_13, shr1 hk, and_11, and_01, bI_0]
  cases bt s k <;> rfl
theorem E_has {s : Int32} {k : Nat} (hk : k < 32) : m_D 104 [.int s, .int (nI k)] μ = some (some (.int (bI (bt s k))), μ) := by
  simp only [D104, i104_0, i104_1, i104_2, i104_3, i104_4, i104_5, i104_6, i104_9, i104_10, i104_13, i104_14, shr1 hk, and_11, and_01, bI_1]
  cases bt s k <;> rfl
theorem E_leastOf {s : Int32} : m_D 97 [.int s] μ = some (some (.int (s &&& -s)), μ) := by
  simp only [D97, i97_0, i97_1, i97_2, i97_3, i97_4]
theorem E_in {v lo hi : Int64} : m_D 102 [.long v, .long lo, .long hi] μ = some (some (.int (bI (decide (lo.toInt ≤ v.toInt) && decide (v.toInt ≤ hi.toInt)))), μ) := by
  simp only [D102, i102_0, i102_1, i102_2, i102_3, i102_6, i102_7, i102_9, i102_10, i102_13, i102_14, i102_17, i102_18, and_11, and_01, lg_cmp_lt, lg_cmp_gt, Int64.lt_iff_toInt_lt]
  by_cases h1 : v.toInt < lo.toInt
  · rw [if_pos h1, decide_eq_false (by omega : ¬ lo.toInt ≤ v.toInt)]; rfl
  · rw [if_neg h1, decide_eq_true (by omega : lo.toInt ≤ v.toInt)]
    by_cases h2 : hi.toInt < v.toInt
    · rw [if_pos h2, decide_eq_false (by omega : ¬ v.toInt ≤ hi.toInt)]; rfl
    · rw [if_neg h2, decide_eq_true (by omega : v.toInt ≤ hi.toInt)]; rfl
theorem toInt_i2l (x : Int32) : x.toInt64.toInt = x.toInt := Int32.toInt_toInt64 x
theorem E_bitsOf {s : Int32} : m_D 103 [.int s] μ = some (some (.int (nI (cnt (bt s) 24))), μ) := by
  have L := loop_up (fun i (c : Nat) => m_G 103 4 [.int s, .int (nI c), .int (nI i)] [] μ) (fun i c => c + (if bt s i = true then 1 else 0)) (fun i c => c ≤ i) 24 0 (Nat.le_refl 0) (fun i c hi hc => ⟨by
    try dsimp only
    rw [i103_4]
    simp only [i103_0, i103_1, i103_2, i103_3, i103_5, i103_7, i103_10, i103_11, i103_12, i103_13, i103_14, i103_15, i103_16, i103_17, i103_18, i103_21, i103_24, i103_25, nI_ltE (show i < 2147483648 by omega) (show 24 < 2147483648 by decide), show (24 : Int32) = nI 24 from rfl, hi, if_true, shr1 (show i < 32 by omega), nI_add1, nI_b, nI_plus], by split <;> omega⟩)
  simp only [D103, i103_0, i103_1, i103_2, i103_3, i103_5, i103_7, i103_10, i103_11, i103_12, i103_13, i103_14, i103_15, i103_16, i103_17, i103_18, i103_21, i103_24, i103_25, n0]
  rw [L.1, i103_4]
  simp only [i103_0, i103_1, i103_2, i103_3, i103_5, i103_7, i103_10, i103_11, i103_12, i103_13, i103_14, i103_15, i103_16, i103_17, i103_18, i103_21, i103_24, i103_25, show (24 : Int32) = nI 24 from rfl, nI_ltE (show 24 < 2147483648 by decide) (show 24 < 2147483648 by decide), Nat.lt_irrefl, if_false]
  have e : ∀ n, it (fun i c => c + (if bt s i = true then 1 else 0)) n 0 = cnt (bt s) n := by
    intro n
    induction n with
    | zero => rfl
    | succ n ih => rw [it, ih]; rfl
  rw [e]
end small
