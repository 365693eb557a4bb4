/-! letters come behind the sheet -/
def tL (x : Int64) : Nat := x.toBitVec.toNat
theorem s_u64 : ∀ n, n < 64 → (((nI n).toInt64.toUInt64 &&& Int64.toUInt64 63).toBitVec % 64).toNat = n := by decide +kernel
theorem tL_ushr (n : Nat) (hn : n < 64) (x : Int64) : tL ((x.toUInt64 >>> ((nI n).toInt64.toUInt64 &&& Int64.toUInt64 63)).toInt64) = tL x / 2 ^ n := by
  show ((x.toUInt64 >>> ((nI n).toInt64.toUInt64 &&& Int64.toUInt64 63)).toBitVec).toNat = _
  rw [UInt64.toBitVec_shiftRight]
  show (x.toUInt64.toBitVec >>> (((nI n).toInt64.toUInt64 &&& Int64.toUInt64 63).toBitVec % 64).toNat).toNat = _
  rw [s_u64 n hn, BitVec.toNat_ushiftRight, Nat.shiftRight_eq_div_pow]
  rfl
theorem tL_byte (x : Int64) : (x &&& 255).toInt32 = nI (tL x % 256) := by
  refine tn_ext ?_
  rw [tn_nI (by omega)]
  unfold tn tL
  rw [Int64.toBitVec_toInt32, BitVec.signExtend_eq_setWidth_of_le _ (by decide), BitVec.toNat_setWidth, Int64.toBitVec_and, BitVec.toNat_and]
  have e : (255 : Int64).toBitVec.toNat = 2 ^ 8 - 1 := by decide
  rw [e, Nat.and_two_pow_sub_one_eq_mod]
  omega
/-- the k-th byte -/
def bv (w : Int64) (k : Nat) : Nat := tL w / 2 ^ (8 * k) % 256
def nzB (w : Int64) : Nat → Bool := fun k => decide (¬ bv w k = 0)
def goB (w : Int64) (k : Nat) : Bool := decide (bv w k ≤ 126) && (decide (bv w k = 0) || decide (cnt (nzB w) k = k))
def lfB (w : Int64) : Nat → Int64
  | 0 => w
  | k + 1 => ((lfB w k).toUInt64 >>> ((8 : Int32).toInt64.toUInt64 &&& Int64.toUInt64 63)).toInt64
theorem lfB_st (w : Int64) (k : Nat) : lfB w (k + 1) = ((lfB w k).toUInt64 >>> ((8 : Int32).toInt64.toUInt64 &&& Int64.toUInt64 63)).toInt64 := rfl
theorem lfB_t (w : Int64) (k : Nat) : tL (lfB w k) = tL w / 2 ^ (8 * k) := by
  induction k with
  | zero => rw [lfB, Nat.mul_zero, Nat.pow_zero, Nat.div_one]
  | succ k ih =>
    have := tL_ushr 8 (by decide) (lfB w k)
    rw [lfB_st]
    refine (show _ = _ from this).trans ?_
    rw [ih, Nat.div_div_eq_div_mul, ← Nat.pow_add, Nat.mul_succ]
theorem n8n : (8 : Int32) = nI 8 := rfl
theorem n126 : (126 : Int32) = nI 126 := rfl
theorem n90 : (90 : Int32) = nI 90 := rfl
section letters
variable {C : Nat × (Nat → Int32)} {μ : mM} {np nr nl ns : Nat} {PA QA LA sh : Nat → Nat}
theorem shr_byte (w : Int64) {k : Nat} (hk : k < 8) : ((w.toUInt64 >>> ((8 * nI k : Int32).toInt64.toUInt64 &&& Int64.toUInt64 63)).toInt64 &&& 255).toInt32 = nI (bv w k) := by
  rw [tL_byte, n8n, nI_times, tL_ushr (8 * k) (by omega)]
  rfl
theorem C_codeAt {w : Int64} {k : Nat} (hk : k < 8) : m_D 59 [.long w, .int (nI k)] μ = some (some (.int (nI (bv w k))), μ) := by
  simp (disch := first | omega | decide) only [D59, i59_0, i59_1, i59_3, i59_4, i59_5, i59_6, i59_9, i59_10, i59_11, shr_byte]
theorem bv_lt (w : Int64) (k : Nat) : bv w k < 256 := Nat.mod_lt _ (by decide)
theorem i2b_id : ∀ c, c < 127 → (nI c).toInt8.toInt32 = nI c := by decide +kernel
def sh2 (sh : Nat → Nat) (w : Int64) (ns : Nat) : Nat → Nat := fun j => if j < ns then sh j else bv w (j - ns)
theorem goB_no {w : Int64} {k : Nat} (h : (!(goB w k)) = true) : 126 < bv w k ∨ (¬ cnt (nzB w) k = k ∧ ¬ bv w k = 0) := by
  unfold goB at h
  by_cases c1 : bv w k ≤ 126
  · right
    rw [decide_eq_true c1, Bool.true_and, Bool.not_eq_true', Bool.or_eq_false_iff, decide_eq_false_iff_not, decide_eq_false_iff_not] at h
    exact ⟨h.2, h.1⟩
  · left; omega
theorem goB_yes {w : Int64} {k : Nat} (h : (!(goB w k)) = false) : bv w k ≤ 126 ∧ (bv w k = 0 ∨ cnt (nzB w) k = k) := by
  unfold goB at h
  rw [Bool.not_eq_false', Bool.and_eq_true, Bool.or_eq_true, decide_eq_true_eq, decide_eq_true_eq, decide_eq_true_eq] at h
  exact h
set_option maxHeartbeats 2000000 in
theorem call_letters (w : Int64) : CallOK C 58 107 [.long w] := by
  rintro μ ⟨np, nr, nl, ns, PA, QA, LA, sh, I⟩
  have hC := I_C I
  have hM := I_M I
  have c1 : FI μ 0 1 = nI ns := I.2.2.2.1.1.2.1
  have m8 : FI μ 19 8 = nI ns := I.2.2.2.1.2.2.1
  have h90 : ns ≤ 90 := I.2.2.2.1.1.1
  -- the class looks at the bytes
  have Lc : ∀ r i v, i + r = 8 → (∀ j, j < i → goB w j = true) → (∃ k, fst (fun k => !(goB w k)) r i = some k ∧ m_G 58 8 [.ref 0, .long w, m_d, .int (nI (cnt (nzB w) i)), .int (bI (decide (¬ cnt (nzB w) i = i))), .int (nI i), v] [] μ = some (some (.int (-102)), μ)) ∨ (fst (fun k => !(goB w k)) r i = none ∧ ∃ v', m_G 58 8 [.ref 0, .long w, m_d, .int (nI (cnt (nzB w) i)), .int (bI (decide (¬ cnt (nzB w) i = i))), .int (nI i), v] [] μ = m_G 58 63 [.ref 0, .long w, m_d, .int (nI (cnt (nzB w) 8)), .int (bI (decide (¬ cnt (nzB w) 8 = 8))), .int (nI 8), v'] [] μ) := by
    intro r
    induction r with
    | zero =>
      intro i v hi hg
      have e : i = 8 := by omega
      subst e
      refine Or.inr ⟨rfl, v, ?_⟩
      rw [i58_8]
      simp (disch := first | omega | decide) only [i58_10, i58_12, n8n, lt_f, if_false]
    | succ r ih =>
      intro i v hi hg
      have hb := bv_lt w i
      have hcl := cnt_le (nzB w) i
      rw [fst]
      cases hG : (!(goB w i)) with
      | true =>
        rw [if_pos rfl]
        refine Or.inl ⟨i, rfl, ?_⟩
        rw [i58_8]
        rcases goB_no hG with q | ⟨q1, q2⟩
        · simp (disch := first | omega | decide) only [i58_10, i58_12, i58_15, i58_16, i58_18, i58_21, i58_23, i58_25, i58_27, i58_30, i58_32, i58_35, i58_37, i58_40, i58_42, n8n, n126, lt_t, C_codeAt, b_v_s, b_i_s, b_n_s, b_r_s, b_r_n, b_m_s, b_c_s, b_c_v, if_true]
        · by_cases q : 126 < bv w i
          · simp (disch := first | omega | decide) only [i58_10, i58_12, i58_15, i58_16, i58_18, i58_21, i58_23, i58_25, i58_27, i58_30, i58_32, i58_35, i58_37, i58_40, i58_42, n8n, n126, lt_t, C_codeAt, b_v_s, b_i_s, b_n_s, b_r_s, b_r_n, b_m_s, b_c_s, b_c_v, if_true]
          · rw [decide_eq_true q1]
            simp (disch := first | omega | decide) only [i58_10, i58_12, i58_15, i58_16, i58_18, i58_21, i58_23, i58_25, i58_27, i58_30, i58_32, i58_35, i58_37, i58_40, i58_42, n8n, n126, lt_t, lt_f, C_codeAt, b_v_s, b_i_s, b_n_s, b_r_s, b_r_n, b_m_s, b_c_s, b_c_v, bI_0, Bool.true_eq_false, nI_is0, q2, if_true, if_false]
      | false =>
        rw [if_neg (by decide)]
        obtain ⟨q1, q2⟩ := goB_yes hG
        have st : ∃ v', m_G 58 8 [.ref 0, .long w, m_d, .int (nI (cnt (nzB w) i)), .int (bI (decide (¬ cnt (nzB w) i = i))), .int (nI i), v] [] μ = m_G 58 8 [.ref 0, .long w, m_d, .int (nI (cnt (nzB w) (i + 1))), .int (bI (decide (¬ cnt (nzB w) (i + 1) = i + 1))), .int (nI (i + 1)), v'] [] μ := by
          refine ⟨.int (nI (bv w i)), ?_⟩
          by_cases z : bv w i = 0
          · have e1 : cnt (nzB w) (i + 1) = cnt (nzB w) i := by rw [cnt_st]; unfold nzB; rw [decide_eq_false (fun k => k z), if_neg (by decide), Nat.add_zero]
            rw [e1, decide_eq_true (show ¬ cnt (nzB w) i = i + 1 by omega), i58_8, bI_t]
            cases hE : decide (¬ cnt (nzB w) i = i) with
            | true => simp (disch := first | omega | decide) only [i58_10, i58_12, i58_15, i58_16, i58_18, i58_21, i58_23, i58_25, i58_27, i58_30, i58_32, i58_35, i58_37, i58_40, i58_42, i58_43, i58_45, i58_48, i58_49, i58_51, i58_54, i58_57, i58_60, n8n, n126, lt_t, lt_f, C_codeAt, b_v_s, b_i_s, b_n_s, b_r_s, b_r_n, b_m_s, b_c_s, b_c_v, bI_0, Bool.true_eq_false, z, nI00, if_true, if_false, nI_add1]
            | false => simp (disch := first | omega | decide) only [i58_10, i58_12, i58_15, i58_16, i58_18, i58_21, i58_23, i58_25, i58_27, i58_30, i58_32, i58_35, i58_37, i58_40, i58_42, i58_43, i58_45, i58_48, i58_49, i58_51, i58_54, i58_57, i58_60, n8n, n126, lt_t, lt_f, C_codeAt, b_v_s, b_i_s, b_n_s, b_r_s, b_r_n, b_m_s, b_c_s, b_c_v, bI_0, z, nI00, if_true, if_false, nI_add1]
          · have q3 : cnt (nzB w) i = i := q2.elim (fun k => absurd k z) id
            have e1 : cnt (nzB w) (i + 1) = cnt (nzB w) i + 1 := by rw [cnt_st]; unfold nzB; rw [decide_eq_true z, if_pos rfl]
            rw [e1, decide_eq_false (fun k => k q3), decide_eq_false (show ¬ ¬ cnt (nzB w) i + 1 = i + 1 from fun k => k (by omega)), i58_8]
            simp (disch := first | omega | decide) only [i58_10, i58_12, i58_15, i58_16, i58_18, i58_21, i58_23, i58_25, i58_27, i58_30, i58_32, i58_35, i58_37, i58_40, i58_42, i58_43, i58_45, i58_48, i58_49, i58_51, i58_54, i58_57, i58_60, n8n, n126, lt_t, lt_f, C_codeAt, b_v_s, b_i_s, b_n_s, b_r_s, b_r_n, b_m_s, b_c_s, b_c_v, bI_0, nI_is0, z, if_true, if_false, nI_add1]
        obtain ⟨v', st⟩ := st
        rw [st]
        exact ih (i + 1) v' (by omega) (fun j hj => by
          by_cases e : j = i
          · subst e; simpa using hG
          · exact hg j (by omega))
  -- the model looks at the bytes
  have Lm : ∀ ν : mM, ∃ v v', m_D 107 [.ref 19, .long w] ν = m_G 107 83 [.ref 19, .long w, m_d, .int (nI (cnt (nzB w) 8)), .int (bI (alB (goB w) 8)), .long (lfB w 8), v, .int (nI 8), v'] [] ν := by
    intro ν
    obtain ⟨ν', v, e, hν⟩ := loop_inv (fun i ν (v : Value) => m_G 107 11 [.ref 19, .long w, m_d, .int (nI (cnt (nzB w) i)), .int (bI (alB (goB w) i)), .long (lfB w i), m_d, .int (nI i), v] [] ν) (fun i ν' => ν' = ν) 8 (fun i ν' v hi P => by
      subst P
      have hb := bv_lt w i
      have hcl := cnt_le (nzB w) i
      have hby : (lfB w i &&& 255).toInt32 = nI (bv w i) := by rw [tL_byte, lfB_t]; rfl
      refine ⟨ν', .int (nI (bv w i)), ?_, rfl⟩
      try dsimp only
      rw [i107_11, alB_st, lfB_st]
      have hz : cnt (nzB w) (i + 1) = cnt (nzB w) i + (if bv w i = 0 then 0 else 1) := by
        rw [cnt_st]
        unfold nzB
        by_cases z : bv w i = 0
        · rw [decide_eq_false (fun k => k z), if_neg (by decide), if_pos z]
        · rw [decide_eq_true z, if_pos rfl, if_neg z]
      rw [hz]
      have hgi : goB w i = (decide (bv w i ≤ 126) && (decide (bv w i = 0) || decide (cnt (nzB w) i = i))) := rfl
      generalize alB (goB w) i = AL
      rw [hgi]
      cases AL with
      | false =>
        rw [Bool.false_and, bI_f]
        by_cases z : bv w i = 0
        · rw [z] at hby
          simp (disch := first | omega | decide) only [i107_13, i107_15, i107_18, i107_20, i107_23, i107_24, i107_25, i107_27, i107_29, i107_31, i107_32, i107_34, i107_36, i107_39, i107_41, i107_43, i107_46, i107_48, i107_51, i107_52, i107_54, i107_57, i107_58, i107_61, i107_62, i107_64, i107_65, i107_67, i107_70, i107_71, i107_74, i107_75, i107_76, i107_77, i107_80, n8n, lt_t, hby, b_v_s, b_i_s, b_n_s, b_r_s, b_r_n, b_m_s, b_c_s, b_c_v, z, le_0, if_true, Int32.add_zero, Nat.add_zero, nI_add1]
        · simp (disch := first | omega | decide) only [i107_13, i107_15, i107_18, i107_20, i107_23, i107_24, i107_25, i107_27, i107_29, i107_31, i107_32, i107_34, i107_36, i107_39, i107_41, i107_43, i107_46, i107_48, i107_51, i107_52, i107_54, i107_57, i107_58, i107_61, i107_62, i107_64, i107_65, i107_67, i107_70, i107_71, i107_74, i107_75, i107_76, i107_77, i107_80, n8n, lt_t, hby, b_v_s, b_i_s, b_n_s, b_r_s, b_r_n, b_m_s, b_c_s, b_c_v, z, le_0, if_true, if_false, nI_add1]
      | true =>
        by_cases z : bv w i = 0
        · rw [Bool.true_and, decide_eq_true (show bv w i ≤ 126 by omega), decide_eq_true z, Bool.true_or, Bool.true_and, bI_t]
          rw [z] at hby
          simp (disch := first | omega | decide) only [i107_13, i107_15, i107_18, i107_20, i107_23, i107_24, i107_25, i107_27, i107_29, i107_31, i107_32, i107_34, i107_36, i107_39, i107_41, i107_43, i107_46, i107_48, i107_51, i107_52, i107_54, i107_57, i107_58, i107_61, i107_62, i107_64, i107_65, i107_67, i107_70, i107_71, i107_74, i107_75, i107_76, i107_77, i107_80, n8n, n126, lt_t, lt_f, hby, b_v_s, b_i_s, b_n_s, b_r_s, b_r_n, b_m_s, b_c_s, b_c_v, ne10, z, nI00, le_0, if_true, if_false, Nat.add_zero, Int32.add_zero, nI_add1]
        · by_cases q1 : 126 < bv w i
          · rw [Bool.true_and, decide_eq_false (show ¬ bv w i ≤ 126 by omega), Bool.false_and, bI_f, bI_t]
            simp (disch := first | omega | decide) only [i107_13, i107_15, i107_18, i107_20, i107_23, i107_24, i107_25, i107_27, i107_29, i107_31, i107_32, i107_34, i107_36, i107_39, i107_41, i107_43, i107_46, i107_48, i107_51, i107_52, i107_54, i107_57, i107_58, i107_61, i107_62, i107_64, i107_65, i107_67, i107_70, i107_71, i107_74, i107_75, i107_76, i107_77, i107_80, n8n, n126, lt_t, hby, b_v_s, b_i_s, b_n_s, b_r_s, b_r_n, b_m_s, b_c_s, b_c_v, ne10, z, le_0, if_true, if_false, nI_add1]
          · by_cases q2 : cnt (nzB w) i = i
            · rw [Bool.true_and, decide_eq_true (show bv w i ≤ 126 by omega), decide_eq_true q2, Bool.or_true, Bool.true_and, bI_t]
              rw [q2]
              simp (disch := first | omega | decide) only [i107_13, i107_15, i107_18, i107_20, i107_23, i107_24, i107_25, i107_27, i107_29, i107_31, i107_32, i107_34, i107_36, i107_39, i107_41, i107_43, i107_46, i107_48, i107_51, i107_52, i107_54, i107_57, i107_58, i107_61, i107_62, i107_64, i107_65, i107_67, i107_70, i107_71, i107_74, i107_75, i107_76, i107_77, i107_80, n8n, n126, lt_t, lt_f, hby, b_v_s, b_i_s, b_n_s, b_r_s, b_r_n, b_m_s, b_c_s, b_c_v, ne10, nI_is0, z, le_0, if_true, if_false, nI_add1]
            · rw [Bool.true_and, decide_eq_true (show bv w i ≤ 126 by omega), decide_eq_false z, decide_eq_false q2, Bool.or_self, Bool.and_false, bI_f, bI_t]
              simp (disch := first | omega | decide) only [i107_13, i107_15, i107_18, i107_20, i107_23, i107_24, i107_25, i107_27, i107_29, i107_31, i107_32, i107_34, i107_36, i107_39, i107_41, i107_43, i107_46, i107_48, i107_51, i107_52, i107_54, i107_57, i107_58, i107_61, i107_62, i107_64, i107_65, i107_67, i107_70, i107_71, i107_74, i107_75, i107_76, i107_77, i107_80, n8n, n126, lt_t, lt_f, eq_f, hby, b_v_s, b_i_s, b_n_s, b_r_s, b_r_n, b_m_s, b_c_s, b_c_v, ne10, nI_is0, z, le_0, if_true, if_false, nI_add1]) ν m_d rfl
    subst hν
    refine ⟨m_d, v, ?_⟩
    simp only [D107, i107_0, i107_1, i107_2, i107_3, i107_5, i107_6, i107_8, i107_9]
    refine (show _ = _ from e).trans ?_
    try dsimp only
    rw [i107_11]
    simp (disch := first | omega | decide) only [i107_13, i107_15, n8n, lt_f, if_false]
  have st0 : m_D 58 [.ref 0, .long w] μ = m_G 58 8 [.ref 0, .long w, m_d, .int (nI (cnt (nzB w) 0)), .int (bI (decide (¬ cnt (nzB w) 0 = 0))), .int (nI 0), m_d] [] μ := by
    simp only [D58, i58_0, i58_1, i58_2, i58_3, i58_5, i58_6]
    rfl
  have hal : alB (goB w) 8 = match fst (fun k => !(goB w k)) 8 0 with | some _ => false | none => true := by
    have al : ∀ (P : Nat → Bool) m, alB P m = true ↔ ∀ j, j < m → P j = true := by
      intro P m
      induction m with
      | zero => exact ⟨fun _ j h => absurd h (Nat.not_lt_zero j), fun _ => rfl⟩
      | succ m ih =>
        rw [alB_st, Bool.and_eq_true, ih]
        constructor
        · rintro ⟨h1, h2⟩ j hj
          by_cases q : j = m
          · subst q; exact h2
          · exact h1 j (by omega)
        · intro h; exact ⟨fun j hj => h j (by omega), h m (by omega)⟩
    cases h : fst (fun k => !(goB w k)) 8 0 with
    | none =>
      refine (al _ _).mpr (fun j hj => ?_)
      have := fst_none _ _ h j (Nat.zero_le j) (by omega)
      simpa using this
    | some k =>
      obtain ⟨_, h2, h3, _⟩ := fst_some _ _ _ h
      cases ha : alB (goB w) 8 with
      | false => rfl
      | true => rw [(al _ _).mp ha k (by omega)] at h3; cases h3
  rcases Lc 8 0 m_d (by decide) (fun j hj => absurd hj (Nat.not_lt_zero j)) with ⟨k, hk, e1⟩ | ⟨hk, v1, e1⟩
  · rw [hk] at hal
    obtain ⟨v, v', e2⟩ := Lm μ
    refine ⟨(-102), μ, μ, st0.trans e1, ?_, I_ok I⟩
    rw [e2, hal]
    simp (disch := first | omega | decide) only [i107_83, i107_85, i107_88, i107_90, bI_0, if_true]
  · rw [hk] at hal
    dsimp only at hal
    have hgo : ∀ j, j < 8 → bv w j ≤ 126 := fun j hj => by
      have := fst_none _ _ hk j (Nat.zero_le j) (by omega)
      exact (goB_yes this).1
    have hm8 := cnt_le (nzB w) 8
    generalize cnt (nzB w) 8 = m at *
    by_cases full : 90 < ns + m
    · obtain ⟨v, v', e2⟩ := Lm μ
      refine ⟨(-104), μ, μ, st0.trans (e1.trans ?_), ?_, I_ok I⟩
      · simp (disch := first | omega | decide) only [i58_63, i58_64, i58_67, i58_68, i58_69, i58_71, i58_74, i58_76, gC1 hC, c1, nI_plus, n90, lt_t, b_v_s, b_i_s, b_n_s, b_r_s, b_r_n, b_m_s, b_c_s, b_c_v, if_true]
      · rw [e2, hal]
        simp (disch := first | omega | decide) only [i107_83, i107_85, i107_88, i107_90, i107_91, i107_92, i107_95, i107_96, i107_97, i107_99, i107_102, i107_104, bI_0, Bool.true_eq_false, gM8 hM, m8, nI_plus, n90, lt_t, b_v_s, b_i_s, b_n_s, b_r_s, b_r_n, b_m_s, b_c_s, b_c_v, if_true, if_false]
    · -- the class's sheet
      obtain ⟨ν, w1, f1, s1, g1, g2⟩ := loop_inv (fun i ν (_ : Unit) => m_G 58 80 [.ref 0, .long w, m_d, .int (nI m), .int (bI (decide (¬ m = 8))), .int (nI i), v1] [] ν) (fun i ν => K [1] [(0, 1)] μ ν ∧ FI ν 0 1 = nI (ns + i) ∧ ∀ j, j < ns + i → A ν 1 j = nI (sh2 sh w ns j)) m (fun i ν _ hi P => by
        obtain ⟨s, g1, g2⟩ := P
        have hCν := CV_K hC s
        have hbi := hgo i (by omega)
        have hid := i2b_id (bv w i) (by omega)
        have p0 := pb_A2 (k := ns + i) (x := nI (bv w i)) (CV_1 hCν) (by omega) (by decide)
        rw [hid] at p0
        have k0 : K [1] [(0, 1)] ν (wA ν 1 (upd (A ν 1) (ns + i) (nI (bv w i)))) := K_wA (CV_1 hCν) _ (by simp)
        have u0 := wA_A (CV_1 hCν) (upd (A ν 1) (ns + i) (nI (bv w i)))
        have r0 := wA_FI (CV_1 hCν) (upd (A ν 1) (ns + i) (nI (bv w i)))
        generalize wA ν 1 (upd (A ν 1) (ns + i) (nI (bv w i))) = ρ at *
        have hCρ := CV_K hCν k0
        have g1' : FI ρ 0 1 = nI (ns + i) := by rw [r0]; exact g1
        have cs1 : K [] [(0, 1)] ρ (wO ρ 0 1 (.int (nI (ns + i + 1)))) := K_wO (k := 1) (CV_o hCρ) rfl _ (by simp)
        have cp1 := pO (k := 1) (CV_o hCρ) rfl (nI (ns + i + 1))
        have cr1 := wO_FIo (k := 1) (CV_o hCρ) rfl (nI (ns + i + 1))
        have cu1 := wO_A (CV_o hCρ) 1 (.int (nI (ns + i + 1)))
        generalize wO ρ 0 1 (.int (nI (ns + i + 1))) = cm1 at cs1 cp1 cr1 cu1
        have cV1 := CV_K hCρ cs1
        refine ⟨cm1, (), ?_, s.tr (k0.tr (cs1.mono (by simp) (by simp))), ?_, fun j hj => ?_⟩
        · try dsimp only
          rw [i58_80]
          simp (disch := first | omega | decide) only [i58_82, i58_83, i58_86, i58_87, i58_90, i58_91, i58_94, i58_95, i58_97, i58_100, i58_101, i58_102, i58_103, i58_103I, i58_104, i58_107, i58_108, i58_109, i58_112, i58_115, lt_t, gC0 hCν, gC1 hCν, gC1 hCρ, g1, g1', C_codeAt, hid, p0, nI_add1, cp1, b_v_s, b_i_s, b_n_s, b_r_s, b_r_n, b_m_s, b_c_s, b_c_v, if_true]
        · rw [cr1, if_pos ⟨rfl, rfl⟩, Nat.add_assoc]
        · rw [cu1, u0, if_pos rfl, upd_at]
          by_cases q : j = ns + i
          · rw [if_pos q]
            unfold sh2
            rw [if_neg (by omega), q, show ns + i - ns = i by omega]
          · rw [if_neg q]; exact g2 j (by omega)) μ () ⟨K.rf μ, c1, fun j hj => by unfold sh2; rw [if_pos (by omega)]; exact I.2.2.2.1.1.2.2.1 j (by omega)⟩
      have hCν := CV_K hC s1
      have hMν := MS_K hM s1
      have m8ν : FI ν 19 8 = nI ns := by rw [K_FI s1 (by simp)]; exact m8
      obtain ⟨v, v', e2⟩ := Lm ν
      obtain ⟨ξ, w2, f2, s2, h1, h2⟩ := loop_inv (fun i ξ (_ : Unit) => m_G 107 108 [.ref 19, .long w, m_d, .int (nI m), .int (bI true), .long (lfB w 8), v, .int (nI i), v'] [] ξ) (fun i ξ => K [26] [(19, 8)] ν ξ ∧ FI ξ 19 8 = nI (ns + i) ∧ ∀ j, j < ns + i → A ξ 26 j = nI (sh2 sh w ns j)) m (fun i ξ _ hi P => by
        obtain ⟨s, g1, g2⟩ := P
        have hMξ := MS_K hMν s
        have hbi := hgo i (by omega)
        have hns : ns + i < 90 := by omega
        have cs1 : K [26] [] ξ (wA ξ 26 (upd (A ξ 26) (ns + i) (nI (bv w i)))) := K_wA (aM26 hMξ) _ (by simp)
        have cp1 := pa_A (x := nI (bv w i)) (k := ns + i) (aM26 hMξ) hns (by decide)
        have cr1 := wA_FI (aM26 hMξ) (upd (A ξ 26) (ns + i) (nI (bv w i)))
        have cu1 := wA_A (aM26 hMξ) (upd (A ξ 26) (ns + i) (nI (bv w i)))
        generalize wA ξ 26 (upd (A ξ 26) (ns + i) (nI (bv w i))) = cm1 at cs1 cp1 cr1 cu1
        have cV1 := MS_K hMξ cs1
        have cs2 : K [] [(19, 8)] cm1 (wO cm1 19 8 (.int (nI (ns + i + 1)))) := K_wO (k := 8) (MS_O cV1) rfl _ (by simp)
        have cp2 := pO (k := 8) (MS_O cV1) rfl (nI (ns + i + 1))
        have cr2 := wO_FIo (k := 8) (MS_O cV1) rfl (nI (ns + i + 1))
        have cu2 := wO_A (MS_O cV1) 8 (.int (nI (ns + i + 1)))
        generalize wO cm1 19 8 (.int (nI (ns + i + 1))) = cm2 at cs2 cp2 cr2 cu2
        have cV2 := MS_K cV1 cs2
        have g1' : FI cm1 19 8 = nI (ns + i) := by rw [cr1]; exact g1
        refine ⟨cm2, (), ?_, s.tr ((cs1.mono (by simp) (by simp)).tr (cs2.mono (by simp) (by simp))), ?_, fun j hj => ?_⟩
        · try dsimp only
          rw [i107_108]
          simp (disch := first | omega | decide) only [i107_110, i107_111, i107_114, i107_115, i107_118, i107_119, i107_122, i107_123, i107_125, i107_127, i107_128, i107_129, i107_132, i107_133, i107_134, i107_135, i107_136, i107_136I, i107_137, i107_140, i107_141, i107_142, i107_145, i107_148, lt_t, gM7 hMξ, gM8 hMξ, gM8 cV1, g1, g1', shr_byte, cp1, nI_add1, cp2, b_v_s, b_i_s, b_n_s, b_r_s, b_r_n, b_m_s, b_c_s, b_c_v, if_true]
        · rw [cr2, if_pos ⟨rfl, rfl⟩, Nat.add_assoc]
        · rw [cu2, cu1, if_pos rfl, upd_at]
          by_cases q : j = ns + i
          · rw [if_pos q]
            unfold sh2
            rw [if_neg (by omega), q, show ns + i - ns = i by omega]
          · rw [if_neg q]; exact g2 j (by omega)) ν () ⟨K.rf ν, m8ν, fun j hj => by
            unfold sh2
            rw [if_pos (by omega), K_A s1 (by simp)]
            exact I.2.2.2.1.2.2.2.1 j (by omega)⟩
      have hMξ := MS_K hMν s2
      have kk : K [1, 26] [(0, 1), (19, 8)] μ ξ := (s1.mono (by simp) (by simp)).tr (s2.mono (by simp) (by simp))
      have hlt : ∀ j, j < ns + m → sh2 sh w ns j < 127 := fun j hj => by
        unfold sh2
        by_cases q : j < ns
        · rw [if_pos q]; exact I.2.2.2.1.1.2.2.2 j q
        · rw [if_neg q]; have := hgo (j - ns) (by omega); omega
      refine ⟨(nI (ns + m)), ν, ξ, st0.trans (e1.trans ?_), ?_, I_ok (INV_K2 (ns' := ns + m) (sh' := sh2 sh w ns) I kk (by decide) (by decide) ⟨⟨by omega, ?_, ?_, hlt⟩, ⟨by omega, h1, h2, hlt⟩⟩)⟩
      · simp (disch := first | omega | decide) only [i58_63, i58_64, i58_67, i58_68, i58_69, i58_71, i58_74, i58_76, i58_77, i58_78, gC1 hC, c1, nI_plus, n90, lt_f, b_v_s, b_i_s, b_n_s, b_r_s, b_r_n, b_m_s, b_c_s, b_c_v, if_false]
        refine (show _ = _ from f1).trans ?_
        try dsimp only
        rw [i58_80]
        simp (disch := first | omega | decide) only [i58_82, i58_83, i58_118, i58_119, i58_122, lt_f, gC1 hCν, g1, b_v_s, b_i_s, b_n_s, b_r_s, b_r_n, b_m_s, b_c_s, b_c_v, if_false]
      · rw [e2, hal]
        simp (disch := first | omega | decide) only [i107_83, i107_85, i107_88, i107_90, i107_91, i107_92, i107_95, i107_96, i107_97, i107_99, i107_102, i107_104, i107_105, i107_106, bI_0, Bool.true_eq_false, gM8 hMν, m8ν, nI_plus, n90, lt_f, b_v_s, b_i_s, b_n_s, b_r_s, b_r_n, b_m_s, b_c_s, b_c_v, if_false]
        refine (show _ = _ from f2).trans ?_
        try dsimp only
        rw [i107_108]
        simp (disch := first | omega | decide) only [i107_110, i107_111, i107_151, i107_152, i107_155, lt_f, gM8 hMξ, h1, b_v_s, b_i_s, b_n_s, b_r_s, b_r_n, b_m_s, b_c_s, b_c_v, if_false]
      · rw [K_FI s2 (by simp)]; exact g1
      · rw [K_A s2 (by simp)]; exact g2
end letters
