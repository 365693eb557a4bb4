/-! the box to ask for; the class works all out -/
def akB (may : Nat → Bool) (mo : Nat → Nat) (base : Nat) (st : Option (Nat × Nat)) : Nat → Option (Nat × Nat)
  | 0 => st
  | b + 1 => match akB may mo base st b with
    | none => if may b = true then some (base + b, mo b) else none
    | some q => if may b = true ∧ mo b < q.2 then some (base + b, mo b) else some q
def akP (may : Nat → Nat → Bool) (mo : Nat → Nat → Nat) (bn : Nat → Nat) : Nat → Option (Nat × Nat)
  | 0 => none
  | p + 1 => akB (may p) (mo p) (24 * p) (akP may mo bn p) (bn p)
theorem akB_st (may : Nat → Bool) (mo : Nat → Nat) (base : Nat) (st : Option (Nat × Nat)) (b : Nat) : akB may mo base st (b + 1) = match akB may mo base st b with
    | none => if may b = true then some (base + b, mo b) else none
    | some q => if may b = true ∧ mo b < q.2 then some (base + b, mo b) else some q := rfl
theorem akB_no (may : Nat → Bool) (mo : Nat → Nat) (base : Nat) (st : Option (Nat × Nat)) (n : Nat) (h : ∀ b, b < n → may b = false) : akB may mo base st n = st := by
  induction n with
  | zero => rfl
  | succ n ih =>
    rw [akB_st, ih (fun b hb => h b (by omega)), h n (by omega)]
    cases st <;> simp
theorem akB_lt {may : Nat → Bool} {mo : Nat → Nat} {base m B : Nat} {st : Option (Nat × Nat)} {n : Nat} (h : ∀ b, b < n → may b = true → mo b < m) (h0 : ∀ q, st = some q → q.2 < m ∧ q.1 < B) (hB : base + n ≤ B) : ∀ q, akB may mo base st n = some q → q.2 < m ∧ q.1 < B := by
  induction n with
  | zero => exact h0
  | succ n ih =>
    intro q
    rw [akB_st]
    have ih' := ih (fun b hb => h b (by omega)) (by omega)
    cases e : akB may mo base st n with
    | none =>
      dsimp only
      split
      · rename_i c; intro z; injection z with z; subst z; exact ⟨h n (by omega) c, by dsimp only; omega⟩
      · intro z; cases z
    | some r =>
      dsimp only
      split
      · rename_i c; intro z; injection z with z; subst z; exact ⟨h n (by omega) c.1, by dsimp only; omega⟩
      · intro z; injection z with z; subst z; exact ih' r e
theorem akP_lt {may : Nat → Nat → Bool} {mo : Nat → Nat → Nat} {bn : Nat → Nat} {m np : Nat} (h : ∀ p, p < np → ∀ b, b < bn p → may p b = true → mo p b < m) (hb : ∀ p, p < np → bn p ≤ 24) : ∀ q, akP may mo bn np = some q → q.2 < m ∧ q.1 < 24 * np := by
  induction np with
  | zero => intro q e; cases e
  | succ np ih =>
    intro q e
    rw [akP] at e
    have hb' := hb np (by omega)
    exact akB_lt (B := 24 * (np + 1)) (h np (by omega)) (fun q e => by have := ih (fun p hp => h p (by omega)) (fun p hp => hb p (by omega)) q e; exact ⟨this.1, by omega⟩) (by omega) q e
def akI : Option (Nat × Nat) → Int32
  | none => -1
  | some q => nI q.1
def akM (m : Nat) : Option (Nat × Nat) → Int32
  | none => nI m
  | some q => nI q.2
def mayF (MK WH : Nat → Int32) (ld : Nat → Nat → Nat) (m p b : Nat) : Bool := decide (WH p = 0) && (decide (MK (24 * p + b) = 0) && (decide (0 < ld p b) && decide (0 < m - ld p b)))
def moF (ld : Nat → Nat → Nat) (m p b : Nat) : Nat := if ld p b < m - ld p b then m - ld p b else ld p b
theorem may_lt {MK WH : Nat → Int32} {ld : Nat → Nat → Nat} {m p b : Nat} (h : mayF MK WH ld m p b = true) : moF ld m p b < m := by
  unfold mayF at h
  unfold moF
  simp only [Bool.and_eq_true, decide_eq_true_eq] at h
  split <;> omega
def ldF (BM PR KD : Nat → Int32) (fit : Nat → Bool) (p b : Nat) : Nat := cnt (fun y => fit y && bt (sn PR KD p (bnn BM p) y) b) 3615
theorem cnt_and_le (P Q : Nat → Bool) (n : Nat) : cnt (fun y => P y && Q y) n ≤ cnt P n := by
  induction n with
  | zero => exact Nat.le_refl 0
  | succ n ih =>
    rw [cnt_st, cnt_st]
    cases P n <;> cases Q n <;> simp <;> omega
theorem ldF_le (BM PR KD : Nat → Int32) (fit : Nat → Bool) (p b : Nat) : ldF BM PR KD fit p b ≤ cnt fit 3615 := cnt_and_le _ _ _
def XW (PA : Nat → Nat) (np : Nat) : List Nat := 12 :: 13 :: (List.range np).map (fun p => PA p + 2)
def YW (PA : Nat → Nat) (np : Nat) : List (Nat × Nat) := (11, 0) :: (11, 1) :: (11, 2) :: (11, 3) :: (11, 4) :: (List.range np).map (fun p => (PA p, 15))
theorem XW_no {PA : Nat → Nat} {np a : Nat} (h1 : a ≠ 12) (h2 : a ≠ 13) (h : ∀ p, p < np → a ≠ PA p + 2) : a ∉ XW PA np := by
  unfold XW
  simp only [List.mem_cons, List.mem_map, List.mem_range, not_or, not_exists, not_and]
  exact ⟨h1, h2, fun p hp e => h p hp e.symm⟩
theorem YW_no {PA : Nat → Nat} {np a k : Nat} (h1 : a ≠ 11) (h : k = 15 → ∀ p, p < np → a ≠ PA p) : (a, k) ∉ YW PA np := by
  unfold YW
  simp only [List.mem_cons, List.mem_map, List.mem_range, not_or, not_exists, not_and, Prod.mk.injEq]
  exact ⟨fun q _ => h1 q, fun q _ => h1 q, fun q _ => h1 q, fun q _ => h1 q, fun q _ => h1 q, fun p hp e q => h q.symm p hp e.symm⟩
theorem XW_in {PA : Nat → Nat} {np p : Nat} (h : p < np) : PA p + 2 ∈ XW PA np := by
  unfold XW
  simp only [List.mem_cons, List.mem_map, List.mem_range]
  exact Or.inr (Or.inr ⟨p, h, rfl⟩)
theorem YW_in {PA : Nat → Nat} {np p : Nat} (h : p < np) : (PA p, 15) ∈ YW PA np := by
  unfold YW
  simp only [List.mem_cons, List.mem_map, List.mem_range]
  exact Or.inr (Or.inr (Or.inr (Or.inr (Or.inr ⟨p, h, rfl⟩))))
theorem PGV_draw {μ ν : mM} {np p : Nat} {PA : Nat → Nat} {BM PR KD WD MK WH : Nat → Int32} (h : PGV μ np PA BM PR KD WD MK WH) (hA : ADs PA np) (hp : p < np) (k : K [PA p + 2] [(PA p, 15)] μ ν) (h1 : FI ν (PA p) 15 = 1) (h2 : ∀ x, x < 3615 → A ν (PA p + 2) x = sn PR KD p (bnn BM p) x) : PGV ν np PA BM PR KD WD MK WH := by
  refine ⟨h.1, K_isR k h.2.1, fun q hq => ?_⟩
  obtain ⟨g1, g2, g3, g4⟩ := h.2.2 q hq
  by_cases e : q = p
  · subst e
    exact ⟨by rw [K_RA k]; exact g1, PV_K g2 k (fun j _ _ _ => by simp; omega) (by simp), PMk_K g3 k (by simp), Or.inr ⟨h1, h2⟩⟩
  · have hd := (hA q hq).2 p hp e
    exact ⟨by rw [K_RA k]; exact g1, PV_K g2 k (fun j _ _ _ => by simp; omega) (by simp), PMk_K g3 k (by simp), DRN_K g4 k (by simp; omega) (by simp; omega)⟩
section cask
variable {μ : mM} {np : Nat} {PA : Nat → Nat} {BM PR KD WD MK WH : Nat → Int32}
theorem C_greaterPart {i l m : Nat} (hF : FV μ) (hi : i < 192) (hl : A μ 12 i = nI l) (hm : FI μ 11 0 = nI m) (hlm : l ≤ m) (hmb : m ≤ 4000) : m_D 5 [.ref 11, .int (nI i)] μ = some (some (.int (nI (if l < m - l then m - l else l))), μ) := by
  simp (disch := first | omega | decide | with_reducible assumption) only [D5, i5_0, i5_1, i5_4, i5_5, i5_6, i5_7, i5_10, i5_11, i5_14, i5_15, i5_16, i5_17, i5_20, gF5 hF, gF0 hF, ga_A hF.2.1, b_v_s, b_i_s, b_n_s, b_r_s, b_r_n, b_m_s, b_c_s, b_c_v, hl, hm, nI_minus, nI_ltE]
  by_cases q : l < m - l
  · rw [if_pos q, if_pos q]
  · rw [if_neg q, if_neg q]
set_option maxHeartbeats 2000000 in
theorem C_bestToAsk {fit : Nat → Bool} (h : PGV μ np PA BM PR KD WD MK WH) (hF : FV μ) (hm : FI μ 11 0 = nI (cnt fit 3615)) (hL : LDs μ np BM PR KD fit (fun _ _ => 3615)) : m_D 6 [.ref 11, .ref 2, .int (nI np)] μ = some (some (.int (akI (akP (mayF MK WH (ldF BM PR KD fit) (cnt fit 3615)) (moF (ldF BM PR KD fit) (cnt fit 3615)) (bnn BM) np))), μ) := by
  have h8 := h.1
  have hmb := cnt_le fit 3615
  have hbn : ∀ p, p < np → bnn BM p ≤ 24 := fun p hp => PV_n (h.2.2 p hp).2.1
  have hle := ldF_le BM PR KD fit
  have hL' : ∀ p, p < np → ∀ b, b < 24 → A μ 12 (24 * p + b) = nI (ldF BM PR KD fit p b) := fun p hp b hb => hL p hp b hb
  generalize hmm : cnt fit 3615 = m at *
  generalize ldF BM PR KD fit = ld at *
  have hlt : ∀ k, k ≤ np → ∀ q, akP (mayF MK WH ld m) (moF ld m) (bnn BM) k = some q → q.2 < m ∧ q.1 < 24 * k := fun k hk => akP_lt (fun p hp b hb c => may_lt c) (fun p hp => hbn p (by omega))
  have hoF := FV_oc hF
  have L := loop_b (fun p (v : Value × Value) => m_G 6 11 [.ref 11, .ref 2, .int (nI np), .int (akI (akP (mayF MK WH ld m) (moF ld m) (bnn BM) p)), .int (akM m (akP (mayF MK WH ld m) (moF ld m) (bnn BM) p)), .int (nI p), v.1, v.2] [] μ) np (some (some (.int (akI (akP (mayF MK WH ld m) (moF ld m) (bnn BM) np))), μ)) (fun v => by
    try dsimp only
    generalize akP (mayF MK WH ld m) (moF ld m) (bnn BM) np = R
    rw [i6_11]
    simp (disch := first | omega | decide | with_reducible assumption) only [i6_13, i6_14, i6_98, i6_99, lt_f, if_false]) (fun p v hp => by
    obtain ⟨v6, v7⟩ := v
    try dsimp only
    obtain ⟨_, h2, h3, _⟩ := h.2.2 p hp
    have hg := pgr h hp
    have ho := P_oc h2
    have hn := PV_n h2
    have hP := hlt p (by omega)
    rw [akP]
    generalize akP (mayF MK WH ld m) (moF ld m) (bnn BM) p = st at hP ⊢
    by_cases w : WH p = 0
    · have f13 : FI μ (PA p) 13 = 0 := by rw [h3.2.2.1, w]
      obtain ⟨ν, v', e, rfl⟩ := loop_inv (fun b ν (v : Value) => m_G 6 20 [.ref 11, .ref 2, .int (nI np), .int (akI (akB (mayF MK WH ld m p) (moF ld m p) (24 * p) st b)), .int (akM m (akB (mayF MK WH ld m p) (moF ld m p) (24 * p) st b)), .int (nI p), .int (nI b), v] [] ν) (fun b ν => ν = μ) (bnn BM p) (fun b ν v hb P => by
        subst P
        refine ⟨ν, .int (nI (24 * p + b)), ?_, rfl⟩
        try dsimp only
        have hq : ∀ q, akB (mayF MK WH ld m p) (moF ld m p) (24 * p) st b = some q → q.2 < m ∧ q.1 < 192 := akB_lt (B := 192) (fun b hb c => may_lt c) (fun q e => by have := hP q e; exact ⟨this.1, by omega⟩) (by omega)
        have hgp := C_greaterPart (i := 24 * p + b) (l := ld p b) (m := m) hF (by omega) (hL' p hp b (by omega)) hm (hle p b) (by omega)
        have hmo : (if ld p b < m - ld p b then m - ld p b else ld p b) = moF ld m p b := rfl
        have hlp := hle p b
        rw [hmo] at hgp
        have hmk := C_markOf h2 h3 hb
        have hmay : mayF MK WH ld m p b = (decide (MK (24 * p + b) = 0) && decide (moF ld m p b < m)) := by
          unfold mayF
          rw [decide_eq_true w, Bool.true_and]
          congr 1
          rw [← Bool.decide_and, ← hmo]
          congr 1
          by_cases q : ld p b < m - ld p b
          · rw [if_pos q]; exact propext ⟨fun z => by omega, fun z => by omega⟩
          · rw [if_neg q]; exact propext ⟨fun z => by omega, fun z => by omega⟩
        have hml : moF ld m p b ≤ m := by rw [← hmo]; split <;> omega
        rw [i6_20, akB_st, hmay]
        generalize akB (mayF MK WH ld m p) (moF ld m p) (24 * p) st b = S at hq
        by_cases c0 : MK (24 * p + b) = 0
        · rw [decide_eq_true c0, Bool.true_and]
          rw [c0] at hmk
          cases S with
          | none =>
            dsimp only
            by_cases c1 : moF ld m p b < m
            · rw [if_pos (decide_eq_true c1)]
              simp (disch := first | omega | decide | with_reducible assumption) only [i6_22, i6_23, i6_25, i6_26, i6_29, i6_32, i6_33, i6_35, i6_36, i6_39, i6_42, i6_44, i6_46, i6_47, i6_49, i6_50, i6_52, i6_53, i6_55, i6_56, i6_58, i6_61, i6_64, i6_65, i6_67, i6_70, i6_72, i6_75, i6_77, i6_78, i6_79, i6_81, i6_84, i6_86, i6_89, akI, akM, hg, b_v_s, b_i_s, b_n_s, b_r_s, b_r_n, b_m_s, b_c_s, b_c_v, P_size h2, P_fisWhole h2, f13, lt_t, if_true, n24, nI_times, nI_plus, Nat.mul_comm p 24, hmk, hgp, nI_add1]
            · rw [if_neg (by rw [decide_eq_false c1]; decide)]
              simp (disch := first | omega | decide | with_reducible assumption) only [i6_22, i6_23, i6_25, i6_26, i6_29, i6_32, i6_33, i6_35, i6_36, i6_39, i6_42, i6_44, i6_46, i6_47, i6_49, i6_50, i6_52, i6_53, i6_55, i6_56, i6_58, i6_61, i6_64, i6_65, i6_67, i6_70, i6_72, i6_75, i6_77, i6_78, i6_79, i6_81, i6_84, i6_86, i6_89, akI, akM, hg, b_v_s, b_i_s, b_n_s, b_r_s, b_r_n, b_m_s, b_c_s, b_c_v, P_size h2, P_fisWhole h2, f13, lt_t, lt_f, if_true, if_false, n24, nI_times, nI_plus, Nat.mul_comm p 24, hmk, hgp, nI_add1]
          | some q =>
            have hq2 := (hq q rfl).1
            dsimp only
            by_cases c1 : moF ld m p b < q.2
            · rw [if_pos ⟨decide_eq_true (by omega), c1⟩]
              simp (disch := first | omega | decide | with_reducible assumption) only [i6_22, i6_23, i6_25, i6_26, i6_29, i6_32, i6_33, i6_35, i6_36, i6_39, i6_42, i6_44, i6_46, i6_47, i6_49, i6_50, i6_52, i6_53, i6_55, i6_56, i6_58, i6_61, i6_64, i6_65, i6_67, i6_70, i6_72, i6_75, i6_77, i6_78, i6_79, i6_81, i6_84, i6_86, i6_89, akI, akM, hg, b_v_s, b_i_s, b_n_s, b_r_s, b_r_n, b_m_s, b_c_s, b_c_v, P_size h2, P_fisWhole h2, f13, lt_t, if_true, n24, nI_times, nI_plus, Nat.mul_comm p 24, hmk, hgp, nI_add1]
            · rw [if_neg (fun z => c1 z.2)]
              simp (disch := first | omega | decide | with_reducible assumption) only [i6_22, i6_23, i6_25, i6_26, i6_29, i6_32, i6_33, i6_35, i6_36, i6_39, i6_42, i6_44, i6_46, i6_47, i6_49, i6_50, i6_52, i6_53, i6_55, i6_56, i6_58, i6_61, i6_64, i6_65, i6_67, i6_70, i6_72, i6_75, i6_77, i6_78, i6_79, i6_81, i6_84, i6_86, i6_89, akI, akM, hg, b_v_s, b_i_s, b_n_s, b_r_s, b_r_n, b_m_s, b_c_s, b_c_v, P_size h2, P_fisWhole h2, f13, lt_t, lt_f, if_true, if_false, n24, nI_times, nI_plus, Nat.mul_comm p 24, hmk, hgp, nI_add1]
        · rw [decide_eq_false c0, Bool.false_and]
          cases S <;> (dsimp only; simp (disch := first | omega | decide | with_reducible assumption) only [i6_22, i6_23, i6_25, i6_26, i6_29, i6_32, i6_33, i6_35, i6_36, i6_39, i6_42, i6_44, i6_46, i6_47, i6_49, i6_50, i6_52, i6_53, i6_55, i6_56, i6_58, i6_61, i6_64, i6_65, i6_67, i6_70, i6_72, i6_75, i6_77, i6_78, i6_79, i6_81, i6_84, i6_86, i6_89, Bool.false_eq_true, false_and, if_false, akI, akM, hg, b_v_s, b_i_s, b_n_s, b_r_s, b_r_n, b_m_s, b_c_s, b_c_v, P_size h2, P_fisWhole h2, f13, lt_t, if_true, n24, nI_times, nI_plus, Nat.mul_comm p 24, hmk, c0, nI_add1])) μ v7 rfl
      refine ⟨(.int (nI (bnn BM p)), v'), ?_⟩
      rw [i6_11]
      simp (disch := first | omega | decide | with_reducible assumption) only [i6_13, i6_14, i6_17, i6_18, lt_t, if_true]
      refine (show _ = _ from e).trans ?_
      try dsimp only
      generalize akB (mayF MK WH ld m p) (moF ld m p) (24 * p) st (bnn BM p) = S
      rw [i6_20]
      simp (disch := first | omega | decide | with_reducible assumption) only [i6_22, i6_23, i6_25, i6_26, i6_29, i6_92, i6_95, hg, b_v_s, b_i_s, b_n_s, b_r_s, b_r_n, b_m_s, b_c_s, b_c_v, P_size h2, lt_f, if_false, nI_add1]
    · have f13 : ¬ FI μ (PA p) 13 = 0 := by rw [h3.2.2.1]; exact w
      rw [akB_no _ _ _ _ _ (fun b _ => by unfold mayF; rw [decide_eq_false w, Bool.false_and])]
      refine ⟨(.int (nI 0), v7), ?_⟩
      have h1n := h2.2.2.1.1
      have f13' : ¬ FI μ (PA p) 13 = nI 0 := f13
      rw [i6_11]
      simp (disch := first | omega | decide | with_reducible assumption) only [i6_13, i6_14, i6_17, i6_18, lt_t, if_true]
      rw [i6_20, n0]
      simp (disch := first | omega | decide | with_reducible assumption) only [i6_22, i6_23, i6_25, i6_26, i6_29, i6_32, i6_33, i6_35, i6_36, i6_39, i6_92, i6_95, hg, b_v_s, b_i_s, b_n_s, b_r_s, b_r_n, b_m_s, b_c_s, b_c_v, P_size h2, P_fisWhole h2, f13', if_false, nI_add1, n0, lt_t, if_true])
  simp (disch := first | omega | decide | with_reducible assumption) only [D6, i6_0, i6_1, i6_2, i6_3, i6_6, i6_8, i6_9, gF0 hF, hm, b_v_s, b_i_s, b_n_s, b_r_s, b_r_n, b_m_s, b_c_s, b_c_v]
  exact L (m_d, m_d)
end cask
