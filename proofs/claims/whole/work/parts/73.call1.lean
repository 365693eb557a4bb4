/-! calls that only tell: both answer alike -/
def CallOK (C : Nat × (Nat → Int32)) (kc km : Nat) (args : List Value) : Prop := ∀ μ, OKc C μ → ∃ v μ1 μ2, m_D kc (.ref 0 :: args) μ = some (some (.int v), μ1) ∧ m_D km (.ref 19 :: args) μ1 = some (some (.int v), μ2) ∧ OKc C μ2
section inv
variable {C : Nat × (Nat → Int32)} {μ : mM} {np nr nl ns : Nat} {PA QA LA sh : Nat → Nat}
theorem I_ok (I : INV C μ np nr nl ns PA QA LA sh) : OKc C μ := ⟨np, nr, nl, ns, PA, QA, LA, sh, I⟩
theorem I_M (I : INV C μ np nr nl ns PA QA LA sh) : MS μ := I.1
theorem I_C (I : INV C μ np nr nl ns PA QA LA sh) : CV μ := I.2.1.1
theorem I_np (I : INV C μ np nr nl ns PA QA LA sh) : np ≤ 8 := I.2.2.2.2.1.1
theorem I_nr (I : INV C μ np nr nl ns PA QA LA sh) : nr ≤ 10 := I.2.2.2.2.2.2.1.1
theorem I_nl (I : INV C μ np nr nl ns PA QA LA sh) : nl ≤ 8 := I.2.2.2.2.2.2.2.1.1
theorem I_V (I : INV C μ np nr nl ns PA QA LA sh) : PGV μ np PA (A μ 20) (A μ 23) (A μ 21) (A μ 22) (A μ 24) (A μ 25) := I.2.2.2.2.2.1
theorem I_A (I : INV C μ np nr nl ns PA QA LA sh) : ADs PA np := I.2.2.2.2.2.2.2.2.2.1.1
theorem I_pg {p : Nat} (I : INV C μ np nr nl ns PA QA LA sh) (hp : p < np) : p < 8 ∧ A μ 20 p = nI (bnn (A μ 20) p) ∧ 1 ≤ bnn (A μ 20) p ∧ bnn (A μ 20) p ≤ 24 ∧ PW (A μ 23) p (bnn (A μ 20) p) ∧ WW (A μ 22) p (bnn (A μ 20) p) ∧ PV μ (PA p) p (bnn (A μ 20) p) (A μ 23) (A μ 21) (A μ 22) ∧ 48 ≤ PA p := by
  have h1 := I_np I
  obtain ⟨a, b, c, d⟩ := I.2.2.2.2.1.2 p hp
  have v := ((I_V I).2.2 p hp).2.1
  exact ⟨by omega, a, b, c, d, v.2.2.2.2.1, v, (I_A I p hp).1⟩
theorem I_ru {r : Nat} (I : INV C μ np nr nl ns PA QA LA sh) (hr : r < nr) : r < 10 ∧ RO μ r ∧ (∃ k q, RW (A μ 32) (A μ 33) r k ∧ A μ 31 r = nI q ∧ RV μ (QA r) r k q (A μ 33)) ∧ m_oc μ (QA r) = some 6 := by
  have h1 := I_nr I
  obtain ⟨_, k, q, a, b, c⟩ := I.2.2.2.2.2.2.1.2.2 r hr
  exact ⟨by omega, ⟨k, q, a, b, c.2.2.2.1⟩, ⟨k, q, a, b, c⟩, gO_oc c.1⟩
theorem C_pageAt {p : Nat} (I : INV C μ np nr nl ns PA QA LA sh) (hp : p < np) : m_D 67 [.ref 0, .int (nI p)] μ = some (some (.ref (PA p)), μ) := by
  have h1 := I_np I
  have hc := I_C I
  have h3 : FI μ 0 3 = nI np := I.2.2.1.2.2.2.1
  have hg := pgr (I_V I) hp
  simp (disch := first | omega | decide) only [D67, i67_0, i67_1, i67_4, i67_5, i67_6, i67_9, i67_12, i67_13, i67_16, i67_17, i67_18, i67_21, i67_22, i67_22N, gC2 hc, gC3 hc, h3, nI_lt0, lt_t, hg, b_v_s, b_i_s, b_n_s, b_r_s, b_r_n, b_m_s, b_c_s, b_c_v, if_true, if_false]
theorem C_pageAtN {x : Int32} (I : INV C μ np nr nl ns PA QA LA sh) (hx : inR x np = false) : m_D 67 [.ref 0, .int x] μ = some (some .null, μ) := by
  have h1 := I_np I
  have hc := I_C I
  have h3 : FI μ 0 3 = nI np := I.2.2.1.2.2.2.1
  rw [inR_b (by omega)] at hx
  by_cases c1 : x < 0
  · simp (disch := first | omega | decide) only [D67, i67_0, i67_1, i67_4, i67_5, i67_6, i67_9, i67_12, i67_13, i67_16, i67_17, i67_18, i67_21, i67_22, i67_22N, c1, b_v_s, b_i_s, b_n_s, b_r_s, b_r_n, b_m_s, b_c_s, b_c_v, if_true]
  · have c2 : ¬ x < nI np := fun q => by rw [decide_eq_true c1, decide_eq_true q] at hx; cases hx
    simp (disch := first | omega | decide) only [D67, i67_0, i67_1, i67_4, i67_5, i67_6, i67_9, i67_12, i67_13, i67_16, i67_17, i67_18, i67_21, i67_22, i67_22N, gC3 hc, h3, c1, c2, b_v_s, b_i_s, b_n_s, b_r_s, b_r_n, b_m_s, b_c_s, b_c_v, if_false]
theorem C_ruleAt {r : Nat} (I : INV C μ np nr nl ns PA QA LA sh) (hr : r < nr) : m_D 68 [.ref 0, .int (nI r)] μ = some (some (.ref (QA r)), μ) := by
  have h1 := I_nr I
  have hc := I_C I
  have h3 : FI μ 0 5 = nI nr := I.2.2.1.2.2.2.2.1
  have hg : m_gr μ 3 (nI r) = some (some (QA r)) := by rw [gR I.2.2.2.2.2.2.1.2.1 (by omega) (by decide), (I.2.2.2.2.2.2.1.2.2 r hr).1]
  simp (disch := first | omega | decide) only [D68, i68_0, i68_1, i68_4, i68_5, i68_6, i68_9, i68_12, i68_13, i68_16, i68_17, i68_18, i68_21, i68_22, i68_22N, gC4 hc, gC5 hc, h3, nI_lt0, lt_t, hg, b_v_s, b_i_s, b_n_s, b_r_s, b_r_n, b_m_s, b_c_s, b_c_v, if_true, if_false]
theorem C_ruleAtN {x : Int32} (I : INV C μ np nr nl ns PA QA LA sh) (hx : inR x nr = false) : m_D 68 [.ref 0, .int x] μ = some (some .null, μ) := by
  have h1 := I_nr I
  have hc := I_C I
  have h3 : FI μ 0 5 = nI nr := I.2.2.1.2.2.2.2.1
  rw [inR_b (by omega)] at hx
  by_cases c1 : x < 0
  · simp (disch := first | omega | decide) only [D68, i68_0, i68_1, i68_4, i68_5, i68_6, i68_9, i68_12, i68_13, i68_16, i68_17, i68_18, i68_21, i68_22, i68_22N, c1, b_v_s, b_i_s, b_n_s, b_r_s, b_r_n, b_m_s, b_c_s, b_c_v, if_true]
  · have c2 : ¬ x < nI nr := fun q => by rw [decide_eq_true c1, decide_eq_true q] at hx; cases hx
    simp (disch := first | omega | decide) only [D68, i68_0, i68_1, i68_4, i68_5, i68_6, i68_9, i68_12, i68_13, i68_16, i68_17, i68_18, i68_21, i68_22, i68_22N, gC5 hc, h3, c1, c2, b_v_s, b_i_s, b_n_s, b_r_s, b_r_n, b_m_s, b_c_s, b_c_v, if_false]
theorem C_lawAt {r : Nat} (I : INV C μ np nr nl ns PA QA LA sh) (hr : r < nl) : m_D 69 [.ref 0, .int (nI r)] μ = some (some (.ref (LA r)), μ) := by
  have h1 := I_nl I
  have hc := I_C I
  have h3 : FI μ 0 7 = nI nl := I.2.2.1.2.2.2.2.2
  have hg : m_gr μ 4 (nI r) = some (some (LA r)) := by rw [gR I.2.2.2.2.2.2.2.1.2.1 (by omega) (by decide), (I.2.2.2.2.2.2.2.1.2.2 r hr).1]
  simp (disch := first | omega | decide) only [D69, i69_0, i69_1, i69_4, i69_5, i69_6, i69_9, i69_12, i69_13, i69_16, i69_17, i69_18, i69_21, i69_22, i69_22N, gC6 hc, gC7 hc, h3, nI_lt0, lt_t, hg, b_v_s, b_i_s, b_n_s, b_r_s, b_r_n, b_m_s, b_c_s, b_c_v, if_true, if_false]
theorem C_lawAtN {x : Int32} (I : INV C μ np nr nl ns PA QA LA sh) (hx : inR x nl = false) : m_D 69 [.ref 0, .int x] μ = some (some .null, μ) := by
  have h1 := I_nl I
  have hc := I_C I
  have h3 : FI μ 0 7 = nI nl := I.2.2.1.2.2.2.2.2
  rw [inR_b (by omega)] at hx
  by_cases c1 : x < 0
  · simp (disch := first | omega | decide) only [D69, i69_0, i69_1, i69_4, i69_5, i69_6, i69_9, i69_12, i69_13, i69_16, i69_17, i69_18, i69_21, i69_22, i69_22N, c1, b_v_s, b_i_s, b_n_s, b_r_s, b_r_n, b_m_s, b_c_s, b_c_v, if_true]
  · have c2 : ¬ x < nI nl := fun q => by rw [decide_eq_true c1, decide_eq_true q] at hx; cases hx
    simp (disch := first | omega | decide) only [D69, i69_0, i69_1, i69_4, i69_5, i69_6, i69_9, i69_12, i69_13, i69_16, i69_17, i69_18, i69_21, i69_22, i69_22N, gC7 hc, h3, c1, c2, b_v_s, b_i_s, b_n_s, b_r_s, b_r_n, b_m_s, b_c_s, b_c_v, if_false]
theorem I_isPage (I : INV C μ np nr nl ns PA QA LA sh) (x : Int32) : m_D 105 [.ref 19, .int x] μ = some (some (.int (bI (inR x np))), μ) := E_isPage (I_M I) I.2.2.1.1 (by have := I_np I; omega)
theorem I_isRule (I : INV C μ np nr nl ns PA QA LA sh) (x : Int32) : m_D 117 [.ref 19, .int x] μ = some (some (.int (bI (inR x nr))), μ) := E_isRule (I_M I) I.2.2.1.2.1 (by have := I_nr I; omega)
theorem in_R {x : Int32} {hi : Int64} {k : Nat} (h : hi.toInt = (k : Int)) : m_D 102 [.long x.toInt64, .long 0, .long hi] μ = some (some (.int (bI (inR x (k + 1)))), μ) := by
  rw [E_in, toInt_i2l, h, show (0 : Int64).toInt = 0 by decide, ← Bool.decide_and]
  have : decide ((0 : Int) ≤ x.toInt ∧ x.toInt ≤ (k : Int)) = inR x (k + 1) := by unfold inR; congr 1; exact propext ⟨fun q => ⟨q.1, by omega⟩, fun q => ⟨q.1, by omega⟩⟩
  rw [this]
/-- a box of a page, as the model asks -/
theorem E_isBox {p : Nat} {b : Int32} (I : INV C μ np nr nl ns PA QA LA sh) (hp : p < np) : m_D 106 [.ref 19, .int (nI p), .int b] μ = some (some (.int (bI (inR b (bnn (A μ 20) p)))), μ) := by
  obtain ⟨h8, hb, h1, h24, _⟩ := I_pg I hp
  have hM := I_M I
  have ho := oM_oc hM
  have hip := I_isPage I (nI p)
  rw [inR_of hp (by have := I_np I; omega)] at hip
  have e1 : m_D 102 [.long b.toInt64, .long 0, .long (nI (bnn (A μ 20) p - 1)).toInt64] μ = some (some (.int (bI (inR b (bnn (A μ 20) p - 1 + 1)))), μ) := in_R (by rw [toInt_i2l, nI_toInt (by omega)])
  rw [show bnn (A μ 20) p - 1 + 1 = bnn (A μ 20) p by omega] at e1
  cases hI : inR b (bnn (A μ 20) p) with
  | true =>
    rw [hI] at e1
    simp (disch := first | omega | decide | with_reducible assumption) only [D106, i106_0, i106_1, i106_2, i106_5, i106_8, i106_9, i106_10, i106_11, i106_12, i106_15, i106_16, i106_17, i106_18, i106_19, i106_20, i106_23, i106_26, i106_27, i106_30, i106_31, hip, bI_0, Bool.true_eq_false, gM1 hM, ga_A (aM20 hM), hb, nI_sub1, e1, b_v_s, b_i_s, b_n_s, b_r_s, b_r_n, b_m_s, b_c_s, b_c_v, if_false, ne10, bI_t]
  | false =>
    rw [hI] at e1
    simp (disch := first | omega | decide | with_reducible assumption) only [D106, i106_0, i106_1, i106_2, i106_5, i106_8, i106_9, i106_10, i106_11, i106_12, i106_15, i106_16, i106_17, i106_18, i106_19, i106_20, i106_23, i106_26, i106_27, i106_30, i106_31, hip, bI_0, Bool.true_eq_false, gM1 hM, ga_A (aM20 hM), hb, nI_sub1, e1, b_v_s, b_i_s, b_n_s, b_r_s, b_r_n, b_m_s, b_c_s, b_c_v, if_true, if_false, ne10, bI_f, bI_t]
theorem E_isBoxN {x b : Int32} (I : INV C μ np nr nl ns PA QA LA sh) (hx : inR x np = false) : m_D 106 [.ref 19, .int x, .int b] μ = some (some (.int 0), μ) := by
  have ho := oM_oc (I_M I)
  have hip := I_isPage I x
  rw [hx] at hip
  simp (disch := first | omega | decide | with_reducible assumption) only [D106, i106_0, i106_1, i106_2, i106_5, i106_8, i106_9, i106_10, i106_11, i106_12, i106_15, i106_16, i106_17, i106_18, i106_19, i106_20, i106_23, i106_26, i106_27, i106_30, i106_31, hip, bI_0, b_v_s, b_i_s, b_n_s, b_r_s, b_r_n, b_m_s, b_c_s, b_c_v, if_true]
/-- what a rule gives, as the class draws it -/
theorem giv_lt {r p n : Nat} {s : Int32} (hn : n ≤ 24) (hs : ∀ b, bt s b = true → b < n) : ∀ b, bt (giv μ r p n s) b = true → b < n := by
  intro b
  have g := gv_lt (PR := A μ 23) (KD := A μ 21) (RT := A μ 33) (r := r) (p := p) hn hs (A μ 32 r).toNatClampNeg
  unfold giv
  generalize gv (A μ 23) (A μ 21) (A μ 33) r p n s (A μ 32 r).toNatClampNeg = G at g
  intro h
  refine g b ?_
  revert h
  unfold srt
  split <;> intro h
  · rw [b_and, Bool.and_eq_true] at h; exact h.1
  · rw [b_and, Bool.and_eq_true] at h; exact h.1
  · rw [b_and, Bool.and_eq_true] at h; exact h.1
  · rw [b_and, b_and, Bool.and_eq_true, Bool.and_eq_true] at h; exact h.1.1
  · rw [b_and, b_and, Bool.and_eq_true, Bool.and_eq_true] at h; exact h.1.1
  · exact h
theorem C_dr {r p : Nat} {s : Int32} (I : INV C μ np nr nl ns PA QA LA sh) (hr : r < nr) (hp : p < np) (hs : ∀ b, bt s b = true → b < bnn (A μ 20) p) : m_D 49 [.ref (QA r), .ref (PA p), .int s] μ = some (some (.int (giv μ r p (bnn (A μ 20) p) s)), μ) := by
  obtain ⟨_, _, ⟨k, q, h1, h2, h3⟩, _⟩ := I_ru I hr
  have v := (I_pg I hp).2.2.2.2.2.2.1
  rw [C_drawn v h3 hs, giv_eq h1.1 h1.2.1 h2 h3.2.2.2.1]
theorem one_lt {n : Nat} (h : 1 ≤ n) : ∀ b, bt 1 b = true → b < n := fun b q => by rw [b_1, decide_eq_true_eq] at q; omega
theorem sb_lt {n b : Nat} (h : b < n) (hn : n ≤ 24) : ∀ i, bt (sb b) i = true → i < n := fun i q => by rw [b_sb (by omega), decide_eq_true_eq] at q; omega
theorem C_dr1 {r p : Nat} (I : INV C μ np nr nl ns PA QA LA sh) (hr : r < nr) (hp : p < np) : m_D 49 [.ref (QA r), .ref (PA p), .int 1] μ = some (some (.int (giv μ r p (bnn (A μ 20) p) 1)), μ) := C_dr I hr hp (one_lt (I_pg I hp).2.2.1)
theorem E_gn {r p : Nat} (I : INV C μ np nr nl ns PA QA LA sh) (hr : r < nr) (hp : p < np) : m_D 127 [.ref 19, .int (nI r), .int (nI p)] μ = some (some (.int (giv μ r p (bnn (A μ 20) p) 1)), μ) := by
  obtain ⟨a1, a2, a3, a4, a5, _⟩ := I_pg I hp
  exact E_given (I_M I) (I_ru I hr).1 a1 a4 a2 a5 (I_ru I hr).2.1
theorem E_gf {r p : Nat} {s : Int32} (I : INV C μ np nr nl ns PA QA LA sh) (hr : r < nr) (hp : p < np) : m_D 126 [.ref 19, .int (nI r), .int (nI p), .int s] μ = some (some (.int (giv μ r p (bnn (A μ 20) p) s)), μ) := by
  obtain ⟨a1, a2, a3, a4, a5, _⟩ := I_pg I hp
  exact E_givenF (I_M I) (I_ru I hr).1 a1 a4 a2 a5 (I_ru I hr).2.1
theorem nthS_sp (s i : Int32) : nthS s i = -1 ∨ ∃ b, b < 24 ∧ bt s b = true ∧ nthS s i = nI b := by
  unfold nthS
  cases h : fst (fun b => bt s b && decide (nI (cnt (bt s) b) = i)) 24 0 with
  | none => exact Or.inl rfl
  | some b =>
    obtain ⟨_, h2, h3, _⟩ := fst_some _ _ _ h
    rw [Bool.and_eq_true] at h3
    exact Or.inr ⟨b, by omega, h3.1, rfl⟩
theorem nthS_0 {s : Int32} (h : ∀ b, bt s b = true → b < 24) : (nthS s 0 = -1) = (s = 0) := by
  refine propext ⟨fun q => ?_, fun q => ?_⟩
  · refine b_ext' fun i hi => ?_
    rw [b_0]
    refine ⟨fun z => ?_, fun z => by cases z⟩
    exfalso
    have hp : 0 < cnt (bt s) 24 := cnt_pos.mpr ⟨i, h i z, z⟩
    obtain ⟨c, c1, c2, c3⟩ := cnt_inv (bt s) hp
    unfold nthS at q
    cases hf : fst (fun b => bt s b && decide (nI (cnt (bt s) b) = 0)) 24 0 with
    | none =>
      have := fst_none _ _ hf c (Nat.zero_le c) (by omega)
      rw [c2, c3] at this
      exact absurd this (by decide)
    | some b =>
      rw [hf] at q
      obtain ⟨_, h2, _⟩ := fst_some _ _ _ hf
      dsimp only at q
      rw [nI_ne1 (by omega)] at q
      exact q
  · rcases nthS_sp s 0 with z | ⟨b, b1, b2, b3⟩
    · exact z
    · rw [q, b_0] at b2; cases b2
end inv
section calls1
variable {C : Nat × (Nat → Int32)}
theorem call_as (x y : Int32) : CallOK C 70 118 [.int x, .int y] := by
  rintro μ ⟨np, nr, nl, ns, PA, QA, LA, sh, I⟩
  have hoC := CV_oc (I_C I)
  have hM := I_M I
  have hoM := oM_oc hM
  have hr := I_isRule I x
  cases hx : inR x nr with
  | false =>
    rw [hx] at hr
    refine ⟨(-101), μ, μ, ?_, ?_, I_ok I⟩
    · simp (disch := first | omega | decide | with_reducible assumption) only [D70, i70_0, i70_1, i70_2, i70_5, i70_5N, i70_6, i70_6N, i70_7, i70_7N, i70_10, i70_12, i70_13, i70_14, i70_17, i70_20, i70_22, i70_23, i70_23N, i70_24, i70_25, i70_28, i70_31, i70_32, i70_35, i70_36, C_ruleAtN I hx, b_v_s, b_i_s, b_n_s, b_r_s, b_r_n, b_m_s, b_c_s, b_c_v]
    · simp (disch := first | omega | decide | with_reducible assumption) only [D118, i118_0, i118_1, i118_2, i118_5, i118_8, i118_10, hr, bI_0, b_v_s, b_i_s, b_n_s, b_r_s, b_r_n, b_m_s, b_c_s, b_c_v, if_true]
  | true =>
    rw [hx] at hr
    obtain ⟨r, hr1, rfl⟩ := inR_nI hx
    obtain ⟨h10, _, ⟨k, q, _, hq, hv⟩, hor⟩ := I_ru I hr1
    have hq5 := hv.2.2.2.1
    have hat := C_ruleAt I hr1
    have f0 : m_gf μ (QA r) 6 0 = some (.int (nI q)) := by rw [gO (e := none) hv.1 rfl, tmv, hv.2.2.1]
    have i5 := in_R (μ := μ) (x := y) (hi := 5) (k := 5) (by decide)
    have isS : m_D 66 [.int y] μ = some (some (.int (bI (inR y 6))), μ) := by
      rw [inR_b (by decide)]
      by_cases c1 : y < 0 <;> by_cases c2 : (5 : Int32) < y
      · simp (disch := first | omega | decide) only [D66, i66_0, i66_1, i66_4, i66_5, i66_6, i66_9, i66_10, i66_13, i66_14, c1, if_true, not_true, decide_false, Bool.false_and, bI_f]
      · simp (disch := first | omega | decide) only [D66, i66_0, i66_1, i66_4, i66_5, i66_6, i66_9, i66_10, i66_13, i66_14, c1, if_true, not_true, decide_false, Bool.false_and, bI_f]
      · have c3 : ¬ y < nI 6 := by rw [Int32.lt_iff_toInt_lt] at *; rw [nI_toInt (by decide)]; have : (5 : Int32).toInt = 5 := by decide
                                   omega
        simp (disch := first | omega | decide) only [D66, i66_0, i66_1, i66_4, i66_5, i66_6, i66_9, i66_10, i66_13, i66_14, c1, c2, c3, if_true, if_false, decide_false, Bool.and_false, bI_f]
      · have c3 : y < nI 6 := by rw [Int32.lt_iff_toInt_lt] at *; rw [nI_toInt (by decide)]; have : (5 : Int32).toInt = 5 := by decide
                                 omega
        simp (disch := first | omega | decide) only [D66, i66_0, i66_1, i66_4, i66_5, i66_6, i66_9, i66_10, i66_13, i66_14, c1, c2, c3, if_true, if_false, not_false_eq_true, decide_true, Bool.and_self, bI_t]
    cases hy : inR y 6 with
    | false =>
      rw [hy] at isS i5
      refine ⟨(-102), μ, μ, ?_, ?_, I_ok I⟩
      · simp (disch := first | omega | decide | with_reducible assumption) only [D70, i70_0, i70_1, i70_2, i70_5, i70_5N, i70_6, i70_6N, i70_7, i70_7N, i70_10, i70_12, i70_13, i70_14, i70_17, i70_20, i70_22, i70_23, i70_23N, i70_24, i70_25, i70_28, i70_31, i70_32, i70_35, i70_36, hat, isS, bI_0, b_v_s, b_i_s, b_n_s, b_r_s, b_r_n, b_m_s, b_c_s, b_c_v, if_true]
      · simp (disch := first | omega | decide | with_reducible assumption) only [D118, i118_0, i118_1, i118_2, i118_5, i118_8, i118_10, i118_11, i118_12, i118_13, i118_14, i118_17, i118_20, i118_23, i118_25, hr, i5, bI_0, Bool.true_eq_false, b_v_s, b_i_s, b_n_s, b_r_s, b_r_n, b_m_s, b_c_s, b_c_v, if_true, if_false]
    | true =>
      rw [hy] at isS i5
      obtain ⟨t, ht, rfl⟩ := inR_nI hy
      have cls : ∀ b : Bool, m_D 48 [.ref (QA r), .int (nI t)] μ = some (some (.int (bI b)), μ) → m_D 70 [.ref 0, .int (nI r), .int (nI t)] μ = some (some (.int (if b = true then nI r else -1)), μ) := by
        intro b hb
        cases b
        · simp (disch := first | omega | decide | with_reducible assumption) only [D70, i70_0, i70_1, i70_2, i70_5, i70_5N, i70_6, i70_6N, i70_7, i70_7N, i70_10, i70_12, i70_13, i70_14, i70_17, i70_20, i70_22, i70_23, i70_23N, i70_24, i70_25, i70_28, i70_31, i70_32, i70_35, i70_36, hat, isS, hb, bI_0, Bool.true_eq_false, Bool.false_eq_true, b_v_s, b_i_s, b_n_s, b_r_s, b_r_n, b_m_s, b_c_s, b_c_v, if_true, if_false]
        · simp (disch := first | omega | decide | with_reducible assumption) only [D70, i70_0, i70_1, i70_2, i70_5, i70_5N, i70_6, i70_6N, i70_7, i70_7N, i70_10, i70_12, i70_13, i70_14, i70_17, i70_20, i70_22, i70_23, i70_23N, i70_24, i70_25, i70_28, i70_31, i70_32, i70_35, i70_36, hat, isS, hb, bI_0, Bool.true_eq_false, b_v_s, b_i_s, b_n_s, b_r_s, b_r_n, b_m_s, b_c_s, b_c_v, if_true, if_false]
      have ga := ga_A (k := r) (aM31 hM) (by omega) (by decide)
      rw [hq] at ga
      have mdl : m_D 118 [.ref 19, .int (nI r), .int (nI t)] μ = m_G 118 26 [.ref 19, .int (nI r), .int (nI t), m_d] [] μ := by
        simp (disch := first | omega | decide | with_reducible assumption) only [D118, i118_0, i118_1, i118_2, i118_5, i118_8, i118_10, i118_11, i118_12, i118_13, i118_14, i118_17, i118_20, i118_23, i118_25, hr, i5, bI_0, Bool.true_eq_false, b_v_s, b_i_s, b_n_s, b_r_s, b_r_n, b_m_s, b_c_s, b_c_v, if_true, if_false]
      have z1 : (nI t = 0) = (t = 0) := nI_is0 (by omega)
      by_cases c0 : t = 0
      · refine ⟨(nI r), μ, μ, ?_, ?_, I_ok I⟩
        · exact cls true (by simp (disch := first | omega | decide) only [D48, i48_0, i48_1, i48_4, i48_5, i48_6, i48_9, i48_12, i48_13, i48_14, i48_17, i48_18, i48_21, i48_22, i48_25, i48_26, i48_29, i48_30, i48_33, i48_34, i48_37, i48_38, z1, c0, nI00, if_true, bI_t])
        · rw [mdl]
          simp (disch := first | omega | decide | with_reducible assumption) only [i118_26, i118_27, i118_30, i118_31, i118_32, i118_35, i118_36, i118_37, i118_40, i118_41, i118_42, i118_45, i118_46, i118_49, i118_50, i118_51, i118_52, i118_55, i118_56, i118_59, i118_60, i118_61, i118_62, i118_65, i118_66, i118_69, i118_70, z1, c0, nI00, ne10, b_v_s, b_i_s, b_n_s, b_r_s, b_r_n, b_m_s, b_c_s, b_c_v, if_true, if_false]
      · by_cases c1 : t = q
        · refine ⟨(nI r), μ, μ, ?_, ?_, I_ok I⟩
          · exact cls true (by simp (disch := first | omega | decide) only [D48, i48_0, i48_1, i48_4, i48_5, i48_6, i48_9, i48_12, i48_13, i48_14, i48_17, i48_18, i48_21, i48_22, i48_25, i48_26, i48_29, i48_30, i48_33, i48_34, i48_37, i48_38, z1, c0, f0, b_v_s, b_i_s, b_n_s, b_r_s, b_r_n, b_m_s, b_c_s, b_c_v, eq_t, if_true, if_false, bI_t])
          · rw [mdl]
            simp (disch := first | omega | decide | with_reducible assumption) only [i118_26, i118_27, i118_30, i118_31, i118_32, i118_35, i118_36, i118_37, i118_40, i118_41, i118_42, i118_45, i118_46, i118_49, i118_50, i118_51, i118_52, i118_55, i118_56, i118_59, i118_60, i118_61, i118_62, i118_65, i118_66, i118_69, i118_70, gM18 hM, ga, z1, c0, eq_t, ne10, b_v_s, b_i_s, b_n_s, b_r_s, b_r_n, b_m_s, b_c_s, b_c_v, if_true, if_false]
        · by_cases c2 : t = 1
          · by_cases c3 : q = 4
            · refine ⟨(nI r), μ, μ, ?_, ?_, I_ok I⟩
              · exact cls true (by simp (disch := first | omega | decide) only [D48, i48_0, i48_1, i48_4, i48_5, i48_6, i48_9, i48_12, i48_13, i48_14, i48_17, i48_18, i48_21, i48_22, i48_25, i48_26, i48_29, i48_30, i48_33, i48_34, i48_37, i48_38, z1, c0, f0, b_v_s, b_i_s, b_n_s, b_r_s, b_r_n, b_m_s, b_c_s, b_c_v, eq_f, n1, n4, eq_t, if_true, if_false, bI_t])
              · rw [mdl]
                simp (disch := first | omega | decide | with_reducible assumption) only [i118_26, i118_27, i118_30, i118_31, i118_32, i118_35, i118_36, i118_37, i118_40, i118_41, i118_42, i118_45, i118_46, i118_49, i118_50, i118_51, i118_52, gM18 hM, ga, z1, c0, eq_f, n1, n3c, eq_t, lt_t, b_v_s, b_i_s, b_n_s, b_r_s, b_r_n, b_m_s, b_c_s, b_c_v, if_true, if_false]
                simp (disch := first | omega | decide | with_reducible assumption) only [i118_55, i118_56, i118_59, i118_60, i118_61, i118_62, i118_65, i118_66, i118_69, i118_70, ne10, b_v_s, b_i_s, b_n_s, b_r_s, b_r_n, b_m_s, b_c_s, b_c_v, if_true, if_false]
            · by_cases c4 : q = 5
              · refine ⟨(nI r), μ, μ, ?_, ?_, I_ok I⟩
                · exact cls true (by simp (disch := first | omega | decide) only [D48, i48_0, i48_1, i48_4, i48_5, i48_6, i48_9, i48_12, i48_13, i48_14, i48_17, i48_18, i48_21, i48_22, i48_25, i48_26, i48_29, i48_30, i48_33, i48_34, i48_37, i48_38, z1, c0, f0, b_v_s, b_i_s, b_n_s, b_r_s, b_r_n, b_m_s, b_c_s, b_c_v, eq_f, n1, n4, n5, eq_t, if_true, if_false, bI_t])
                · rw [mdl]
                  simp (disch := first | omega | decide | with_reducible assumption) only [i118_26, i118_27, i118_30, i118_31, i118_32, i118_35, i118_36, i118_37, i118_40, i118_41, i118_42, i118_45, i118_46, i118_49, i118_50, i118_51, i118_52, gM18 hM, ga, z1, c0, eq_f, n1, n3c, eq_t, lt_t, b_v_s, b_i_s, b_n_s, b_r_s, b_r_n, b_m_s, b_c_s, b_c_v, if_true, if_false]
                  simp (disch := first | omega | decide | with_reducible assumption) only [i118_55, i118_56, i118_59, i118_60, i118_61, i118_62, i118_65, i118_66, i118_69, i118_70, ne10, b_v_s, b_i_s, b_n_s, b_r_s, b_r_n, b_m_s, b_c_s, b_c_v, if_true, if_false]
              · refine ⟨(-1), μ, μ, ?_, ?_, I_ok I⟩
                · exact cls false (by simp (disch := first | omega | decide) only [D48, i48_0, i48_1, i48_4, i48_5, i48_6, i48_9, i48_12, i48_13, i48_14, i48_17, i48_18, i48_21, i48_22, i48_25, i48_26, i48_29, i48_30, i48_33, i48_34, i48_37, i48_38, z1, c0, f0, b_v_s, b_i_s, b_n_s, b_r_s, b_r_n, b_m_s, b_c_s, b_c_v, eq_f, n1, n4, n5, eq_t, if_true, if_false, bI_f])
                · rw [mdl]
                  simp (disch := first | omega | decide | with_reducible assumption) only [i118_26, i118_27, i118_30, i118_31, i118_32, i118_35, i118_36, i118_37, i118_40, i118_41, i118_42, i118_45, i118_46, i118_49, i118_50, i118_51, i118_52, gM18 hM, ga, z1, c0, eq_f, n1, n3c, eq_t, lt_f, b_v_s, b_i_s, b_n_s, b_r_s, b_r_n, b_m_s, b_c_s, b_c_v, if_true, if_false]
                  simp (disch := first | omega | decide | with_reducible assumption) only [i118_59, i118_60, i118_61, i118_62, i118_65, i118_66, i118_69, i118_70, ne10, b_v_s, b_i_s, b_n_s, b_r_s, b_r_n, b_m_s, b_c_s, b_c_v, if_true, if_false]
                  rfl
          · refine ⟨(-1), μ, μ, ?_, ?_, I_ok I⟩
            · exact cls false (by simp (disch := first | omega | decide) only [D48, i48_0, i48_1, i48_4, i48_5, i48_6, i48_9, i48_12, i48_13, i48_14, i48_17, i48_18, i48_21, i48_22, i48_25, i48_26, i48_29, i48_30, i48_33, i48_34, i48_37, i48_38, z1, c0, f0, b_v_s, b_i_s, b_n_s, b_r_s, b_r_n, b_m_s, b_c_s, b_c_v, eq_f, n1, if_true, if_false, bI_f])
            · rw [mdl]
              simp (disch := first | omega | decide | with_reducible assumption) only [i118_26, i118_27, i118_30, i118_31, i118_32, i118_35, i118_36, i118_37, i118_40, i118_41, i118_42, i118_45, i118_46, i118_49, i118_50, i118_51, i118_52, gM18 hM, ga, z1, c0, eq_f, n1, b_v_s, b_i_s, b_n_s, b_r_s, b_r_n, b_m_s, b_c_s, b_c_v, if_true, if_false]
              simp (disch := first | omega | decide | with_reducible assumption) only [i118_59, i118_60, i118_61, i118_62, i118_65, i118_66, i118_69, i118_70, ne10, b_v_s, b_i_s, b_n_s, b_r_s, b_r_n, b_m_s, b_c_s, b_c_v, if_true, if_false]
              rfl
end calls1
