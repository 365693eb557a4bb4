/-! laws hold, laws are broken, what is mended -/
theorem i_mul2 (y : Int32) : y * 2 = y <<< (nI 1 &&& 31) := by
  refine Int32.toBitVec_inj.mp ?_
  rw [Int32.toBitVec_mul, Int32.toBitVec_shiftLeft]
  show y.toBitVec * 2#32 = y.toBitVec <<< ((nI 1 &&& 31).toBitVec.smod 32).toNat
  rw [s_l 1 (by decide), BitVec.shiftLeft_eq_mul_twoPow]
  rfl
theorem brk_mk (H : Nat → Bool) (k : Nat) (hk : k ≤ 8) : mk (fun l => !(H l)) k * 2 = brk H k := by
  have b2 : ∀ j, j < 32 → bt 2 j = decide (j = 1) := by decide +kernel
  have key : ∀ k, k ≤ 8 → ∀ i, i < 32 → bt (brk H k) i = (decide (1 ≤ i) && (decide (i - 1 < k) && !(H (i - 1)))) := by
    intro k
    induction k with
    | zero => intro _ i hi; rw [brk, b_0]; simp
    | succ k ih =>
      intro hk i hi
      rw [brk_st, b_or, ih (by omega) i hi]
      cases hH : H k with
      | true =>
        rw [if_pos rfl, b_0, Bool.or_false]
        by_cases q : i - 1 = k
        · rw [q, hH, Bool.not_true]; simp
        · congr 2
          exact decide_eq_decide.mpr ⟨fun z => by omega, fun z => by omega⟩
      | false =>
        rw [if_neg (by decide), b_shl k (by omega) _ hi]
        by_cases h1 : k ≤ i
        · rw [decide_eq_true h1, Bool.true_and, b2 _ (by omega)]
          by_cases q : i = k + 1
          · rw [q, show k + 1 - k = 1 by omega, show k + 1 - 1 = k by omega, hH, decide_eq_true rfl, Bool.or_true]
            simp
          · rw [decide_eq_false (show ¬ i - k = 1 by omega), Bool.or_false]
            by_cases z : 1 ≤ i
            · rw [decide_eq_true z]
              congr 2
              exact decide_eq_decide.mpr ⟨fun z => by omega, fun z => by omega⟩
            · rw [decide_eq_false z, Bool.false_and, Bool.false_and]
        · rw [decide_eq_false h1, Bool.false_and, Bool.or_false]
          congr 2
          exact decide_eq_decide.mpr ⟨fun z => by omega, fun z => by omega⟩
  refine b_ext fun i hi => ?_
  rw [i_mul2, b_shl 1 (by decide) _ hi, key k hk i hi, b_mk _ (by omega)]
theorem klw_B {q p m m' n : Nat} {X Y G B B' : Int32} {WD : Nat → Int32} (hp : p = 0) : klw q X Y p m n G B WD = klw q X Y p m' n G B' WD := by
  unfold klw
  subst hp
  split
  · rfl
  · split
    · simp
    · rfl
section calls4
variable {C : Nat × (Nat → Int32)} {μ : mM} {np nr nl ns : Nat} {PA QA LA sh : Nat → Nat}
def hlI (μ : mM) (l r p : Nat) : Bool := hlw μ l r p (bnn (A μ 20) (p - 1)) (bnn (A μ 20) p) (fq μ l)
theorem I_ahead {p : Nat} (I : INV C μ np nr nl ns PA QA LA sh) (hp : p < np) : 0 < p → bnn (A μ 20) (p - 1) ≤ 24 ∧ A μ 20 (p - 1) = nI (bnn (A μ 20) (p - 1)) ∧ WW (A μ 22) (p - 1) (bnn (A μ 20) (p - 1)) ∧ PW (A μ 23) (p - 1) (bnn (A μ 20) (p - 1)) := fun h0 => by
  obtain ⟨_, a2, _, a4, a5, a6, _⟩ := I_pg I (show p - 1 < np by omega)
  exact ⟨a4, a2, a6, a5⟩
theorem I_la {l : Nat} (I : INV C μ np nr nl ns PA QA LA sh) (hl : l < nl) : l < 8 ∧ A μ 39 l = nI (fq μ l) ∧ fq μ l ≤ 3 ∧ LV μ (LA l) (fq μ l) (A μ 40 l) (A μ 41 l) := by
  have h := I_nl I
  obtain ⟨_, a, b⟩ := I.2.2.2.2.2.2.2.1.2.2 l hl
  exact ⟨by omega, b, a.2.2.2.2, a⟩
theorem E_hl {l r p : Nat} (I : INV C μ np nr nl ns PA QA LA sh) (hl : l < nl) (hr : r < nr) (hp : p < np) : ∃ ν, m_D 151 [.ref 19, .int (nI l), .int (nI r), .int (nI p)] μ = some (some (.int (bI (hlI μ l r p))), ν) ∧ SC [42, 43] [] μ ν := by
  obtain ⟨a1, a2, a3, a4, a5, a6, _⟩ := I_pg I hp
  obtain ⟨b1, b2, b3, _⟩ := I_la I hl
  exact E_holdsLaw (I_M I) b1 (I_ru I hr).1 a1 a4 b3 b2 a2 a6 a5 (I_ru I hr).2.1 (I_ahead I hp)
/-- the page ahead, as the class finds it, and what was given there -/
theorem C_ahead {p : Nat} (I : INV C μ np nr nl ns PA QA LA sh) (hp : p < np) : (p = 0 ∧ m_D 67 [.ref 0, .int (nI p - 1)] μ = some (some .null, μ)) ∨ (0 < p ∧ m_D 67 [.ref 0, .int (nI p - 1)] μ = some (some (.ref (PA (p - 1))), μ)) := by
  by_cases h : p = 0
  · subst h
    exact Or.inl ⟨rfl, C_pageAtN I (by unfold inR; exact decide_eq_false (fun z => absurd z.1 (by decide)))⟩
  · refine Or.inr ⟨by omega, ?_⟩
    rw [nI_sub1 (by omega)]
    exact C_pageAt I (by omega)
theorem C_kept {l r p : Nat} {B : Int32} (I : INV C μ np nr nl ns PA QA LA sh) (hl : l < nl) (hp : p < np) (v : Value) (hv : (p = 0 ∧ v = .null) ∨ (0 < p ∧ v = .ref (PA (p - 1)) ∧ B = giv μ r (p - 1) (bnn (A μ 20) (p - 1)) 1)) : m_D 8 [.ref (LA l), .ref (PA p), .int (giv μ r p (bnn (A μ 20) p) 1), v, .int B] μ = some (some (.int (bI (hlI μ l r p))), μ) := by
  obtain ⟨a1, a2, a3, a4, a5, a6, a7, _⟩ := I_pg I hp
  have hgl := giv_lt (μ := μ) (r := r) (p := p) a4 (one_lt a3)
  have e := C_isKept (u := PA (p - 1)) (m := bnn (A μ 20) (p - 1)) (G := giv μ r p (bnn (A μ 20) p) 1) (B := B) (I_la I hl).2.2.2 a7 (fun i hi => by have := hgl i hi; omega) v (by
    rcases hv with h | ⟨h1, h2, _⟩
    · exact Or.inl h
    · exact Or.inr ⟨h1, h2, (I_pg I (show p - 1 < np by omega)).2.2.2.2.2.2.1⟩)
  rw [e]
  unfold hlI
  rw [hlw_klw]
  rcases hv with ⟨h, _⟩ | ⟨_, _, h⟩
  · rw [klw_B h]
  · rw [h]
theorem call_holds (x y z : Int32) : CallOK C 83 152 [.int x, .int y, .int z] := by
  rintro μ ⟨np, nr, nl, ns, PA, QA, LA, sh, I⟩
  have hoC := CV_oc (I_C I)
  have hM := I_M I
  have hoM := oM_oc hM
  have hr := I_isRule I y
  have hpg := I_isPage I z
  have hnl := I_nl I
  have m27 : FI μ 19 27 = nI nl := I.2.2.1.2.2.1
  have hla : m_D 102 [.long x.toInt64, .long 0, .long (nI nl - 1).toInt64] μ = some (some (.int (bI (inR x nl))), μ) := by
    rw [E_in, toInt_i2l, toInt_i2l, show (0 : Int64).toInt = 0 by decide, ← Bool.decide_and]
    have e2 : (nI nl - 1).toInt = (nl : Int) - 1 := by
      cases nl with
      | zero => decide
      | succ n => rw [nI_m1, nI_toInt (by omega)]; omega
    rw [e2]
    have : decide ((0 : Int) ≤ x.toInt ∧ x.toInt ≤ (nl : Int) - 1) = inR x nl := by unfold inR; congr 1; exact propext ⟨fun q => ⟨q.1, by omega⟩, fun q => ⟨q.1, by omega⟩⟩
    rw [this]
  have bad : (inR x nl && (inR y nr && inR z np)) = false → ∃ v μ1 μ2, m_D 83 (.ref 0 :: [.int x, .int y, .int z]) μ = some (some (.int v), μ1) ∧ m_D 152 (.ref 19 :: [.int x, .int y, .int z]) μ1 = some (some (.int v), μ2) ∧ OKc C μ2 := by
    intro hbad
    refine ⟨(-101), μ, μ, ?_, ?_, I_ok I⟩
    · cases hx : inR x nl <;> cases hy : inR y nr <;> cases hz : inR z np <;> (first | (rw [hx, hy, hz] at hbad; exact absurd hbad (by decide)) | skip) <;> (
        (first | have a1 := C_lawAtN I hx | (obtain ⟨r, hr1, rfl⟩ := inR_nI hx; have a1 := C_lawAt I hr1))
        (first | have a2 := C_ruleAtN I hy | (obtain ⟨r, hr1, rfl⟩ := inR_nI hy; have a2 := C_ruleAt I hr1))
        (first | have a3 := C_pageAtN I hz | (obtain ⟨r, hr1, rfl⟩ := inR_nI hz; have a3 := C_pageAt I hr1))
        simp (disch := first | omega | decide | with_reducible assumption) only [D83, i83_0, i83_1, i83_2, i83_5, i83_5N, i83_7, i83_8, i83_9, i83_12, i83_12N, i83_14, i83_15, i83_16, i83_19, i83_19N, i83_21, i83_21N, i83_23, i83_23N, i83_26, i83_26N, i83_28, i83_28N, i83_31, i83_31N, i83_33, i83_33N, i83_36, i83_38, a1, a2, a3, b_v_s, b_i_s, b_n_s, b_r_s, b_r_n, b_m_s, b_c_s, b_c_v])
    · cases hx : inR x nl with
      | false =>
        rw [hx] at hla
        simp (disch := first | omega | decide | with_reducible assumption) only [D152, i152_0, i152_1, i152_2, i152_3, i152_4, i152_7, i152_8, i152_9, i152_10, i152_13, i152_16, i152_17, i152_18, i152_21, i152_24, i152_25, i152_26, i152_29, i152_32, i152_34, gM27 hM, m27, hla, bI_0, b_v_s, b_i_s, b_n_s, b_r_s, b_r_n, b_m_s, b_c_s, b_c_v, if_true]
      | true =>
        rw [hx] at hla
        cases hy : inR y nr with
        | false =>
          rw [hy] at hr
          simp (disch := first | omega | decide | with_reducible assumption) only [D152, i152_0, i152_1, i152_2, i152_3, i152_4, i152_7, i152_8, i152_9, i152_10, i152_13, i152_16, i152_17, i152_18, i152_21, i152_24, i152_25, i152_26, i152_29, i152_32, i152_34, gM27 hM, m27, hla, hr, bI_0, Bool.true_eq_false, b_v_s, b_i_s, b_n_s, b_r_s, b_r_n, b_m_s, b_c_s, b_c_v, if_true, if_false]
        | true =>
          rw [hy] at hr
          cases hz : inR z np with
          | false =>
            rw [hz] at hpg
            simp (disch := first | omega | decide | with_reducible assumption) only [D152, i152_0, i152_1, i152_2, i152_3, i152_4, i152_7, i152_8, i152_9, i152_10, i152_13, i152_16, i152_17, i152_18, i152_21, i152_24, i152_25, i152_26, i152_29, i152_32, i152_34, gM27 hM, m27, hla, hr, hpg, bI_0, Bool.true_eq_false, b_v_s, b_i_s, b_n_s, b_r_s, b_r_n, b_m_s, b_c_s, b_c_v, if_true, if_false]
          | true => rw [hx, hy, hz] at hbad; cases hbad
  cases hx : inR x nl with
  | false => exact bad (by rw [hx]; rfl)
  | true => cases hy : inR y nr with
    | false => exact bad (by rw [hy, Bool.false_and, Bool.and_false])
    | true => cases hz : inR z np with
      | false => exact bad (by rw [hz, Bool.and_false, Bool.and_false])
      | true =>
        rw [hx] at hla
        rw [hy] at hr
        rw [hz] at hpg
        obtain ⟨l, hl, rfl⟩ := inR_nI hx
        obtain ⟨r, hr1, rfl⟩ := inR_nI hy
        obtain ⟨p, hp, rfl⟩ := inR_nI hz
        have hor := (I_ru I hr1).2.2.2
        have hol := LV_oc (I_la I hl).2.2.2
        have hoP := P_oc (I_pg I hp).2.2.2.2.2.2.1
        obtain ⟨ξ, e2, s2⟩ := E_hl I hl hr1 hp
        refine ⟨(bI (hlI μ l r p)), μ, ξ, ?_, ?_, I_ok (INV_SC I s2 (by decide) (by decide))⟩
        · rcases C_ahead I hp with ⟨h0, ha⟩ | ⟨h0, ha⟩
          · have e := C_kept (r := r) (B := 0) I hl hp .null (Or.inl ⟨h0, rfl⟩)
            cases hH : hlI μ l r p <;> (
              rw [hH] at e
              simp (disch := first | omega | decide | with_reducible assumption) only [D83, i83_0, i83_1, i83_2, i83_5, i83_5N, i83_7, i83_8, i83_9, i83_12, i83_12N, i83_14, i83_15, i83_16, i83_19, i83_19N, i83_21, i83_21N, i83_23, i83_23N, i83_26, i83_26N, i83_28, i83_28N, i83_31, i83_31N, i83_33, i83_33N, i83_36, i83_38, i83_39, i83_40, i83_41, i83_42, i83_43, i83_46, i83_46N, i83_48, i83_48N, i83_50, i83_50N, i83_53, i83_54, i83_57, i83_57N, i83_59, i83_59N, i83_61, i83_62, i83_65, i83_67, i83_67N, i83_69, i83_69N, i83_71, i83_71N, i83_73, i83_73N, i83_75, i83_76, i83_79, i83_79N, i83_81, i83_83, i83_83N, i83_86, i83_89, i83_90, i83_93, i83_94, C_lawAt I hl, C_ruleAt I hr1, C_pageAt I hp, ha, C_dr1 I hr1 hp, e, bI_0, Bool.true_eq_false, b_v_s, b_i_s, b_n_s, b_r_s, b_r_n, b_m_s, b_c_s, b_c_v, if_true, if_false, ne10, bI_t, bI_f])
          · have hp1 : p - 1 < np := by omega
            have e := C_kept (r := r) (B := giv μ r (p - 1) (bnn (A μ 20) (p - 1)) 1) I hl hp (.ref (PA (p - 1))) (Or.inr ⟨h0, rfl, rfl⟩)
            cases hH : hlI μ l r p <;> (
              rw [hH] at e
              simp (disch := first | omega | decide | with_reducible assumption) only [D83, i83_0, i83_1, i83_2, i83_5, i83_5N, i83_7, i83_8, i83_9, i83_12, i83_12N, i83_14, i83_15, i83_16, i83_19, i83_19N, i83_21, i83_21N, i83_23, i83_23N, i83_26, i83_26N, i83_28, i83_28N, i83_31, i83_31N, i83_33, i83_33N, i83_36, i83_38, i83_39, i83_40, i83_41, i83_42, i83_43, i83_46, i83_46N, i83_48, i83_48N, i83_50, i83_50N, i83_53, i83_54, i83_57, i83_57N, i83_59, i83_59N, i83_61, i83_62, i83_65, i83_67, i83_67N, i83_69, i83_69N, i83_71, i83_71N, i83_73, i83_73N, i83_75, i83_76, i83_79, i83_79N, i83_81, i83_83, i83_83N, i83_86, i83_89, i83_90, i83_93, i83_94, C_lawAt I hl, C_ruleAt I hr1, C_pageAt I hp, ha, C_dr1 I hr1 hp, C_dr1 I hr1 hp1, e, bI_0, Bool.true_eq_false, b_v_s, b_i_s, b_n_s, b_r_s, b_r_n, b_m_s, b_c_s, b_c_v, if_true, if_false, ne10, bI_t, bI_f])
        · cases hH : hlI μ l r p <;> (
            rw [hH] at e2
            simp (disch := first | omega | decide | with_reducible assumption) only [D152, i152_0, i152_1, i152_2, i152_3, i152_4, i152_7, i152_8, i152_9, i152_10, i152_13, i152_16, i152_17, i152_18, i152_21, i152_24, i152_25, i152_26, i152_29, i152_32, i152_34, i152_35, i152_36, i152_37, i152_38, i152_39, i152_42, i152_45, i152_46, i152_49, i152_50, gM27 hM, m27, hla, hr, hpg, e2, bI_0, Bool.true_eq_false, b_v_s, b_i_s, b_n_s, b_r_s, b_r_n, b_m_s, b_c_s, b_c_v, if_true, if_false, ne10, bI_t, bI_f])
def brI (μ : mM) (r p nl : Nat) : Int32 := brO μ r p (bnn (A μ 20) (p - 1)) (bnn (A μ 20) p) nl
theorem E_br {r p : Nat} (I : INV C μ np nr nl ns PA QA LA sh) (hr : r < nr) (hp : p < np) : ∃ ν, m_D 153 [.ref 19, .int (nI r), .int (nI p)] μ = some (some (.int (brI μ r p nl)), ν) ∧ SC [42, 43] [] μ ν := by
  obtain ⟨a1, a2, a3, a4, a5, a6, _⟩ := I_pg I hp
  exact E_brokenOf (I_M I) I.2.2.1.2.2.1 ⟨I_nl I, fun l hl => ⟨(I_la I hl).2.1, (I_la I hl).2.2.1⟩⟩ (I_ru I hr).1 a1 a4 a2 a6 a5 (I_ru I hr).2.1 (I_ahead I hp)
set_option maxHeartbeats 1000000 in
theorem C_broken {r p : Nat} (I : INV C μ np nr nl ns PA QA LA sh) (hr : r < nr) (hp : p < np) : m_D 84 [.ref 0, .int (nI r), .int (nI p)] μ = some (some (.int (brI μ r p nl)), μ) := by
  have hC := I_C I
  have hoC := CV_oc hC
  have h8 := I_nl I
  have hor := (I_ru I hr).2.2.2
  have c7 : FI μ 0 7 = nI nl := I.2.2.1.2.2.2.2.2
  unfold brI brO
  by_cases g0 : giv μ r p (bnn (A μ 20) p) 1 = 0
  · rw [if_pos g0]
    have hd := C_dr1 I hr hp
    rw [g0] at hd
    simp (disch := first | omega | decide | with_reducible assumption) only [D84, i84_0, i84_1, i84_2, i84_5, i84_5N, i84_6, i84_7, i84_8, i84_11, i84_11N, i84_13, i84_13N, i84_14, i84_14N, i84_17, i84_17N, i84_19, i84_19N, i84_22, i84_24, i84_25, i84_25N, i84_26, i84_26N, i84_28, i84_29, i84_32, i84_34, i84_36, i84_39, i84_40, C_ruleAt I hr, C_pageAt I hp, hd, b_v_s, b_i_s, b_n_s, b_r_s, b_r_n, b_m_s, b_c_s, b_c_v, if_true]
  · rw [if_neg g0]
    have hd := C_dr1 I hr hp
    have fin : ∀ (v : Value) (B : Int32), ((p = 0 ∧ v = .null) ∨ (0 < p ∧ v = .ref (PA (p - 1)) ∧ B = giv μ r (p - 1) (bnn (A μ 20) (p - 1)) 1)) → m_G 84 74 [.ref 0, .int (nI r), .int (nI p), .ref (QA r), .ref (PA p), .int (giv μ r p (bnn (A μ 20) p) 1), v, .int B, .int 0, .int 0] [] μ = some (some (.int (brk (fun l => hlw μ l r p (bnn (A μ 20) (p - 1)) (bnn (A μ 20) p) (fq μ l)) nl)), μ) := by
      intro v B hv
      rw [← brk_mk _ _ h8]
      have L := loop1 (fun l => m_G 84 74 [.ref 0, .int (nI r), .int (nI p), .ref (QA r), .ref (PA p), .int (giv μ r p (bnn (A μ 20) p) 1), v, .int B, .int (mk (fun l => !(hlw μ l r p (bnn (A μ 20) (p - 1)) (bnn (A μ 20) p) (fq μ l))) l), .int (nI l)] [] μ) nl (fun l hl => by
        try dsimp only
        have hol := LV_oc (I_la I hl).2.2.2
        have hg : m_gr μ 4 (nI l) = some (some (LA l)) := by rw [gR I.2.2.2.2.2.2.2.1.2.1 (by omega) (by decide), (I.2.2.2.2.2.2.2.1.2.2 l hl).1]
        have e := C_kept (r := r) (B := B) I hl hp v hv
        have eh : hlI μ l r p = hlw μ l r p (bnn (A μ 20) (p - 1)) (bnn (A μ 20) p) (fq μ l) := rfl
        rw [eh] at e
        rw [i84_74, mk]
        generalize mk (fun l => !(hlw μ l r p (bnn (A μ 20) (p - 1)) (bnn (A μ 20) p) (fq μ l))) l = W
        cases hH : hlw μ l r p (bnn (A μ 20) (p - 1)) (bnn (A μ 20) p) (fq μ l) with
        | true =>
          rw [hH] at e
          rcases hv with ⟨_, rfl⟩ | ⟨_, rfl, _⟩ <;> simp (disch := first | omega | decide | with_reducible assumption) only [i84_76, i84_77, i84_80, i84_83, i84_84, i84_87, i84_89, i84_90, i84_90N, i84_92, i84_94, i84_94N, i84_96, i84_98, i84_98N, i84_101, i84_104, i84_106, i84_107, i84_109, i84_110, i84_111, i84_113, i84_116, gC7 hC, gC6 hC, c7, lt_t, hg, e, bI_0, Bool.true_eq_false, b_v_s, b_i_s, b_n_s, b_r_s, b_r_n, b_m_s, b_c_s, b_c_v, if_true, if_false, Bool.not_true, Bool.false_eq_true, or_0, nI_add1]
        | false =>
          rw [hH] at e
          rcases hv with ⟨_, rfl⟩ | ⟨_, rfl, _⟩ <;> simp (disch := first | omega | decide | with_reducible assumption) only [i84_76, i84_77, i84_80, i84_83, i84_84, i84_87, i84_89, i84_90, i84_90N, i84_92, i84_94, i84_94N, i84_96, i84_98, i84_98N, i84_101, i84_104, i84_106, i84_107, i84_109, i84_110, i84_111, i84_113, i84_116, gC7 hC, gC6 hC, c7, lt_t, hg, e, bI_0, b_v_s, b_i_s, b_n_s, b_r_s, b_r_n, b_m_s, b_c_s, b_c_v, if_true, if_false, Bool.not_false, sb_def, nI_add1])
      refine (show _ = _ from L).trans ?_
      try dsimp only
      generalize mk (fun l => !(hlw μ l r p (bnn (A μ 20) (p - 1)) (bnn (A μ 20) p) (fq μ l))) nl = W
      rw [i84_74]
      simp (disch := first | omega | decide | with_reducible assumption) only [i84_76, i84_77, i84_80, i84_119, i84_121, i84_122, i84_123, gC7 hC, c7, lt_f, b_v_s, b_i_s, b_n_s, b_r_s, b_r_n, b_m_s, b_c_s, b_c_v, if_false]
    rcases C_ahead I hp with ⟨h0, ha⟩ | ⟨h0, ha⟩
    · have f := fin .null 0 (Or.inl ⟨h0, rfl⟩)
      simp (disch := first | omega | decide | with_reducible assumption) only [D84, i84_0, i84_1, i84_2, i84_5, i84_5N, i84_6, i84_7, i84_8, i84_11, i84_11N, i84_13, i84_13N, i84_14, i84_14N, i84_17, i84_17N, i84_19, i84_19N, i84_22, i84_24, i84_25, i84_25N, i84_26, i84_26N, i84_28, i84_29, i84_32, i84_34, i84_36, i84_39, i84_40, i84_41, i84_42, i84_43, i84_44, i84_45, i84_48, i84_48N, i84_50, i84_50N, i84_52, i84_52N, i84_55, i84_56, i84_59, i84_59N, i84_60, i84_60N, i84_62, i84_63, i84_66, i84_68, i84_69, i84_71, i84_72, C_ruleAt I hr, C_pageAt I hp, hd, ha, g0, b_v_s, b_i_s, b_n_s, b_r_s, b_r_n, b_m_s, b_c_s, b_c_v, if_false]
      exact f
    · have hp1 : p - 1 < np := by omega
      have f := fin (.ref (PA (p - 1))) _ (Or.inr ⟨h0, rfl, rfl⟩)
      simp (disch := first | omega | decide | with_reducible assumption) only [D84, i84_0, i84_1, i84_2, i84_5, i84_5N, i84_6, i84_7, i84_8, i84_11, i84_11N, i84_13, i84_13N, i84_14, i84_14N, i84_17, i84_17N, i84_19, i84_19N, i84_22, i84_24, i84_25, i84_25N, i84_26, i84_26N, i84_28, i84_29, i84_32, i84_34, i84_36, i84_39, i84_40, i84_41, i84_42, i84_43, i84_44, i84_45, i84_48, i84_48N, i84_50, i84_50N, i84_52, i84_52N, i84_55, i84_56, i84_59, i84_59N, i84_60, i84_60N, i84_62, i84_63, i84_66, i84_68, i84_69, i84_71, i84_72, C_ruleAt I hr, C_pageAt I hp, hd, ha, C_dr1 I hr hp1, g0, b_v_s, b_i_s, b_n_s, b_r_s, b_r_n, b_m_s, b_c_s, b_c_v, if_false]
      exact f
theorem call_broken (x y : Int32) : CallOK C 84 154 [.int x, .int y] := by
  rintro μ ⟨np, nr, nl, ns, PA, QA, LA, sh, I⟩
  have hoC := CV_oc (I_C I)
  have hoM := oM_oc (I_M I)
  have hr := I_isRule I x
  have hpg := I_isPage I y
  cases hx : inR x nr with
  | false =>
    rw [hx] at hr
    refine ⟨(-101), μ, μ, ?_, ?_, I_ok I⟩
    · cases hy : inR y np with
      | false => simp (disch := first | omega | decide | with_reducible assumption) only [D84, i84_0, i84_1, i84_2, i84_5, i84_5N, i84_6, i84_7, i84_8, i84_11, i84_11N, i84_13, i84_13N, i84_14, i84_14N, i84_17, i84_17N, i84_19, i84_19N, i84_22, i84_24, C_ruleAtN I hx, C_pageAtN I hy, b_v_s, b_i_s, b_n_s, b_r_s, b_r_n, b_m_s, b_c_s, b_c_v]
      | true =>
        obtain ⟨p, hp, rfl⟩ := inR_nI hy
        simp (disch := first | omega | decide | with_reducible assumption) only [D84, i84_0, i84_1, i84_2, i84_5, i84_5N, i84_6, i84_7, i84_8, i84_11, i84_11N, i84_13, i84_13N, i84_14, i84_14N, i84_17, i84_17N, i84_19, i84_19N, i84_22, i84_24, C_ruleAtN I hx, C_pageAt I hp, b_v_s, b_i_s, b_n_s, b_r_s, b_r_n, b_m_s, b_c_s, b_c_v]
    · simp (disch := first | omega | decide | with_reducible assumption) only [D154, i154_0, i154_1, i154_2, i154_5, i154_8, i154_9, i154_10, i154_13, i154_16, i154_17, i154_18, i154_19, i154_22, i154_25, i154_27, hr, bI_0, b_v_s, b_i_s, b_n_s, b_r_s, b_r_n, b_m_s, b_c_s, b_c_v, if_true]
  | true =>
    rw [hx] at hr
    obtain ⟨r, hr1, rfl⟩ := inR_nI hx
    cases hy : inR y np with
    | false =>
      rw [hy] at hpg
      refine ⟨(-101), μ, μ, ?_, ?_, I_ok I⟩
      · simp (disch := first | omega | decide | with_reducible assumption) only [D84, i84_0, i84_1, i84_2, i84_5, i84_5N, i84_6, i84_7, i84_8, i84_11, i84_11N, i84_13, i84_13N, i84_14, i84_14N, i84_17, i84_17N, i84_19, i84_19N, i84_22, i84_24, C_ruleAt I hr1, C_pageAtN I hy, b_v_s, b_i_s, b_n_s, b_r_s, b_r_n, b_m_s, b_c_s, b_c_v]
      · simp (disch := first | omega | decide | with_reducible assumption) only [D154, i154_0, i154_1, i154_2, i154_5, i154_8, i154_9, i154_10, i154_13, i154_16, i154_17, i154_18, i154_19, i154_22, i154_25, i154_27, hr, hpg, bI_0, Bool.true_eq_false, b_v_s, b_i_s, b_n_s, b_r_s, b_r_n, b_m_s, b_c_s, b_c_v, if_true, if_false]
    | true =>
      rw [hy] at hpg
      obtain ⟨p, hp, rfl⟩ := inR_nI hy
      obtain ⟨ξ, e2, s2⟩ := E_br I hr1 hp
      refine ⟨(brI μ r p nl), μ, ξ, C_broken I hr1 hp, ?_, I_ok (INV_SC I s2 (by decide) (by decide))⟩
      simp (disch := first | omega | decide | with_reducible assumption) only [D154, i154_0, i154_1, i154_2, i154_5, i154_8, i154_9, i154_10, i154_13, i154_16, i154_17, i154_18, i154_19, i154_22, i154_25, i154_27, hr, hpg, bI_0, Bool.true_eq_false, e2, b_v_s, b_i_s, b_n_s, b_r_s, b_r_n, b_m_s, b_c_s, b_c_v, if_false]
end calls4
