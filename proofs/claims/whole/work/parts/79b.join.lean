/-! rows of two pages joined -/
theorem fst_snoc (P : Nat → Bool) : ∀ r i, fst P (r + 1) i = match fst P r i with
    | some k => some k
    | none => if P (i + r) = true then some (i + r) else none := by
  intro r
  induction r with
  | zero => intro i; rw [fst, fst, fst]; rfl
  | succ r ihr =>
    intro i
    rw [fst, ihr (i + 1)]
    by_cases q : P i = true
    · rw [if_pos q, fst, if_pos q]
    · rw [if_neg q, fst, if_neg q, show i + 1 + r = i + (r + 1) by omega]
section join
variable {C : Nat × (Nat → Int32)} {μ : mM} {np nr nl ns : Nat} {PA QA LA sh : Nat → Nat}
/-- the key of box a, if it is a row -/
def kyV (μ : mM) (r k p a : Nat) : Int32 := if bt (giv μ r p (bnn (A μ 20) p) 1) a = true then fwd μ k p a else -1
/-- whether t is a pair: its first row t / 24, its second t % 24 -/
def prV (μ : mM) (r k p q t : Nat) : Bool := decide (¬ kyV μ r k p (t / 24) = -1) && decide (kyV μ r k q (t % 24) = kyV μ r k p (t / 24))
def atV (μ : mM) (r k p q w t : Nat) : Bool := prV μ r k p q t && decide (cnt (prV μ r k p q) t = w)
theorem kyV_hi {r k p a : Nat} (I : INV C μ np nr nl ns PA QA LA sh) (hp : p < np) (ha : bnn (A μ 20) p ≤ a) : kyV μ r k p a = -1 := by
  obtain ⟨h8, hb, h1, h24, _⟩ := I_pg I hp
  unfold kyV
  rw [if_neg]
  intro h
  have := giv_lt (μ := μ) (r := r) (p := p) h24 (one_lt h1) a h
  omega
theorem C_ky {r k p a : Nat} (I : INV C μ np nr nl ns PA QA LA sh) (hk : k < nr) (hp : p < np) (h : bt (giv μ r p (bnn (A μ 20) p) 1) a = true) : a < bnn (A μ 20) p ∧ m_D 50 [.ref (QA k), .ref (PA p), .int (nI a)] μ = some (some (.int (kyV μ r k p a)), μ) ∧ m_D 162 [.ref 19, .int (nI k), .int (nI p), .int (nI a)] μ = some (some (.int (kyV μ r k p a)), μ) := by
  obtain ⟨h8, hb, h1, h24, _⟩ := I_pg I hp
  have hl := giv_lt (μ := μ) (r := r) (p := p) h24 (one_lt h1) a h
  have e : kyV μ r k p a = fwd μ k p a := by unfold kyV; rw [if_pos h]
  rw [e]
  exact ⟨hl, C_firstWord I hk hp hl, E_firstWord I hk hp hl⟩
theorem K_giv {X : List Nat} {Y : List (Nat × Nat)} {μ ν : mM} (s : K X Y μ ν) (hX : ∀ a ∈ X, a < 20 ∨ 33 < a) (r p n : Nat) (t : Int32) : giv ν r p n t = giv μ r p n t := by
  unfold giv
  rw [K_A s (a := 21) (fun q => by have := hX _ q; omega), K_A s (a := 22) (fun q => by have := hX _ q; omega), K_A s (a := 23) (fun q => by have := hX _ q; omega), K_A s (a := 31) (fun q => by have := hX _ q; omega), K_A s (a := 32) (fun q => by have := hX _ q; omega), K_A s (a := 33) (fun q => by have := hX _ q; omega)]
theorem K_kyV {X : List Nat} {Y : List (Nat × Nat)} {μ ν : mM} (s : K X Y μ ν) (hX : ∀ a ∈ X, a < 20 ∨ 33 < a) (r k p a : Nat) : kyV ν r k p a = kyV μ r k p a := by
  unfold kyV fwd
  rw [K_A s (a := 20) (fun q => by have := hX _ q; omega), K_A s (a := 22) (fun q => by have := hX _ q; omega), K_giv s hX, K_giv s hX]
theorem K_fwd {X : List Nat} {Y : List (Nat × Nat)} {μ ν : mM} (s : K X Y μ ν) (hX : ∀ a ∈ X, a < 20 ∨ 33 < a) (r p a : Nat) : fwd ν r p a = fwd μ r p a := by
  unfold fwd
  rw [K_A s (a := 20) (fun q => by have := hX _ q; omega), K_A s (a := 22) (fun q => by have := hX _ q; omega), K_giv s hX]
theorem C_setOther {r k q : Nat} (I : INV C μ np nr nl ns PA QA LA sh) (hr : r < nr) (hk : k < nr) (hq : q < np) : ∃ ν, m_D 89 [.ref 0, .ref (QA r), .ref (QA k), .ref (PA q)] μ = some (none, ν) ∧ K [18] [] μ ν ∧ ∀ b, b < 24 → A ν 18 b = kyV μ r k q b := by
  have hor := (I_ru I hr).2.2.2
  have hd := C_dr1 I hr hq
  obtain ⟨ν, w, e, s, f⟩ := loop_inv (fun b ν (_ : Unit) => m_G 89 11 [.ref 0, .ref (QA r), .ref (QA k), .ref (PA q), .int (giv μ r q (bnn (A μ 20) q) 1), .int (nI b)] [] ν) (fun b ν => K [18] [] μ ν ∧ ∀ j, j < b → A ν 18 j = kyV μ r k q j) 24 (fun b ν _ hb P => by
    obtain ⟨s, f⟩ := P
    have J := INV_K I s (by decide) (by decide)
    have hCν := I_C J
    have a18 := J.2.1.2.2.2.2.2.2
    have hok := (I_ru J hk).2.2.2
    refine ⟨wA ν 18 (upd (A ν 18) b (kyV μ r k q b)), (), ?_, s.tr (K_wA a18 _ (by simp)), fun j hj => ?_⟩
    · try dsimp only
      rw [i89_11]
      cases hbt : bt (giv μ r q (bnn (A μ 20) q) 1) b with
      | false =>
        have ek : kyV μ r k q b = -1 := by unfold kyV; rw [hbt, if_neg (by decide)]
        rw [ek]
        simp (disch := first | omega | decide | with_reducible assumption) only [i89_13, i89_15, i89_18, i89_19, i89_22, i89_24, i89_26, i89_28, i89_31, i89_34, i89_35, i89_36, i89_38, i89_41, i89_44, i89_45, i89_46, i89_49, n24, lt_t, gC14 hCν, E_isIn, hbt, bI_0, pa_A a18, b_v_s, b_i_s, b_n_s, b_r_s, b_r_n, b_m_s, b_c_s, b_c_v, if_true, nI_add1]
      | true =>
        have hbt' : bt (giv ν r q (bnn (A ν 20) q) 1) b = true := by rw [K_A s (a := 20) (by decide), K_giv s (by decide)]; exact hbt
        obtain ⟨_, c1, _⟩ := C_ky J hk hq hbt'
        rw [K_kyV s (by decide)] at c1
        simp (disch := first | omega | decide | with_reducible assumption) only [i89_13, i89_15, i89_18, i89_19, i89_22, i89_24, i89_26, i89_28, i89_31, i89_34, i89_35, i89_36, i89_38, i89_41, i89_44, i89_45, i89_46, i89_49, n24, lt_t, gC14 hCν, E_isIn, hbt, bI_0, Bool.true_eq_false, c1, pa_A a18, b_v_s, b_i_s, b_n_s, b_r_s, b_r_n, b_m_s, b_c_s, b_c_v, if_true, if_false, nI_add1]
    · rw [wA_A a18, if_pos rfl, upd_at]
      by_cases z : j = b
      · rw [if_pos z, z]
      · rw [if_neg z]; exact f j (by omega)) μ () ⟨K.rf μ, fun j hj => absurd hj (Nat.not_lt_zero j)⟩
  refine ⟨ν, ?_, s, f⟩
  simp (disch := first | omega | decide | with_reducible assumption) only [D89, i89_0, i89_1, i89_2, i89_3, i89_6, i89_8, i89_9, hd, b_v_s, b_i_s, b_n_s, b_r_s, b_r_n, b_m_s, b_c_s, b_c_v]
  refine (show _ = _ from e).trans ?_
  try dsimp only
  rw [i89_11]
  simp (disch := first | omega | decide | with_reducible assumption) only [i89_13, i89_15, i89_52, n24, lt_f, if_false]
/-- the class's search for a pair -/
theorem C_pairsUpTo {r k p q w : Nat} (I : INV C μ np nr nl ns PA QA LA sh) (hr : r < nr) (hk : k < nr) (hp : p < np) (hw : w < 1000) (h18 : ∀ b, b < 24 → A μ 18 b = kyV μ r k q b) : m_D 90 [.ref 0, .ref (QA r), .ref (QA k), .ref (PA p), .int (nI w)] μ = some (some (.int (match fst (atV μ r k p q w) (24 * bnn (A μ 20) p) 0 with
    | some t => -1 - nI t
    | none => nI (cnt (prV μ r k p q) (24 * bnn (A μ 20) p)))), μ) := by
  have hor := (I_ru I hr).2.2.2
  have hok := (I_ru I hk).2.2.2
  have hd := C_dr1 I hr hp
  have hC := I_C I
  have a18 := I.2.1.2.2.2.2.2.2
  obtain ⟨h8, hb, h1, h24, hpw, hww, hv, _⟩ := I_pg I hp
  have inner : ∀ a, a < bnn (A μ 20) p → ∀ rr b, b + rr = 24 → m_G 90 49 [.ref 0, .ref (QA r), .ref (QA k), .ref (PA p), .int (nI w), .int (giv μ r p (bnn (A μ 20) p) 1), .int (nI (cnt (prV μ r k p q) (24 * a + b))), .int (nI a), .int (kyV μ r k p a), .int (nI b)] [] μ = match fst (atV μ r k p q w) rr (24 * a + b) with
      | some t => some (some (.int (-1 - nI t)), μ)
      | none => m_G 90 49 [.ref 0, .ref (QA r), .ref (QA k), .ref (PA p), .int (nI w), .int (giv μ r p (bnn (A μ 20) p) 1), .int (nI (cnt (prV μ r k p q) (24 * a + 24))), .int (nI a), .int (kyV μ r k p a), .int (nI 24)] [] μ := by
    intro a ha rr
    induction rr with
    | zero => intro b hbr; rw [show b = 24 by omega]; rfl
    | succ rr ih =>
      intro b hbr
      have hcl := cnt_le (prV μ r k p q) (24 * a + b)
      have e1 : (24 * a + b) / 24 = a := by omega
      have e2 : (24 * a + b) % 24 = b := by omega
      have hpr : prV μ r k p q (24 * a + b) = (decide (¬ kyV μ r k p a = -1) && decide (kyV μ r k q b = kyV μ r k p a)) := by unfold prV; rw [e1, e2]
      have g18 := ga_A (k := b) a18 (by omega) (by decide)
      rw [h18 b (by omega)] at g18
      rw [fst]
      have hat : atV μ r k p q w (24 * a + b) = (prV μ r k p q (24 * a + b) && decide (cnt (prV μ r k p q) (24 * a + b) = w)) := rfl
      rw [hat, i90_49]
      have next : cnt (prV μ r k p q) (24 * a + (b + 1)) = cnt (prV μ r k p q) (24 * a + b) + (if prV μ r k p q (24 * a + b) = true then 1 else 0) := by rw [← Nat.add_assoc, cnt_st]
      have ih' := ih (b + 1) (by omega)
      rw [next] at ih'
      rw [← Nat.add_assoc] at ih'
      generalize cnt (prV μ r k p q) (24 * a + b) = N at *
      by_cases c1 : kyV μ r k p a = -1
      · rw [hpr, decide_eq_false (fun z => z c1), Bool.false_and, Bool.false_and, if_neg (by decide)]
        rw [hpr, decide_eq_false (fun z => z c1), Bool.false_and, if_neg (by decide), Nat.add_zero] at ih'
        rw [← ih']
        simp (disch := first | omega | decide | with_reducible assumption) only [i90_51, i90_53, i90_56, i90_58, i90_59, i90_62, i90_63, i90_66, i90_68, i90_69, i90_71, i90_74, i90_76, i90_78, i90_81, i90_82, i90_84, i90_86, i90_87, i90_89, i90_90, i90_91, i90_92, i90_95, i90_98, n24, lt_t, c1, if_true, nI_add1]
      · by_cases c2 : kyV μ r k q b = kyV μ r k p a
        · rw [hpr, decide_eq_true c1, decide_eq_true c2, Bool.and_self, Bool.true_and]
          rw [hpr, decide_eq_true c1, decide_eq_true c2, Bool.and_self, if_pos rfl] at ih'
          by_cases c3 : N = w
          · rw [decide_eq_true c3, if_pos rfl]
            subst c3
            simp (disch := first | omega | decide | with_reducible assumption) only [i90_51, i90_53, i90_56, i90_58, i90_59, i90_62, i90_63, i90_66, i90_68, i90_69, i90_71, i90_74, i90_76, i90_78, i90_81, i90_82, i90_84, i90_86, i90_87, i90_89, i90_90, i90_91, n24, lt_t, c1, gC14 hC, g18, c2, k24c, nI_times, nI_plus, Nat.mul_comm a 24, b_v_s, b_i_s, b_n_s, b_r_s, b_r_n, b_m_s, b_c_s, b_c_v, if_true, if_false]
          · rw [decide_eq_false c3, if_neg (by decide), ← ih']
            simp (disch := first | omega | decide | with_reducible assumption) only [i90_51, i90_53, i90_56, i90_58, i90_59, i90_62, i90_63, i90_66, i90_68, i90_69, i90_71, i90_74, i90_76, i90_78, i90_81, i90_82, i90_84, i90_86, i90_87, i90_89, i90_90, i90_91, i90_92, i90_95, i90_98, n24, lt_t, c1, gC14 hC, g18, c2, eq_f, b_v_s, b_i_s, b_n_s, b_r_s, b_r_n, b_m_s, b_c_s, b_c_v, if_true, if_false, nI_add1]
        · rw [hpr, decide_eq_true c1, decide_eq_false c2, Bool.and_false, Bool.false_and, if_neg (by decide)]
          rw [hpr, decide_eq_true c1, decide_eq_false c2, Bool.and_false, if_neg (by decide), Nat.add_zero] at ih'
          rw [← ih']
          simp (disch := first | omega | decide | with_reducible assumption) only [i90_51, i90_53, i90_56, i90_58, i90_59, i90_62, i90_63, i90_66, i90_68, i90_69, i90_71, i90_74, i90_76, i90_78, i90_81, i90_82, i90_84, i90_86, i90_87, i90_89, i90_90, i90_91, i90_92, i90_95, i90_98, n24, lt_t, c1, gC14 hC, g18, c2, b_v_s, b_i_s, b_n_s, b_r_s, b_r_n, b_m_s, b_c_s, b_c_v, if_true, if_false, nI_add1]
  have fst_add : ∀ (P : Nat → Bool) (x y i : Nat), fst P (x + y) i = match fst P x i with | some t => some t | none => fst P y (i + x) := by
    intro P x
    induction x with
    | zero => intro y i; rw [Nat.zero_add]; rfl
    | succ x ihx =>
      intro y i
      rw [show x + 1 + y = (x + y) + 1 by omega, fst, fst]
      by_cases z : P i = true
      · rw [if_pos z, if_pos z]
      · rw [if_neg z, if_neg z, ihx y (i + 1), show i + 1 + x = i + (x + 1) by omega]
  have outer : ∀ rr a (v8 v9 : Value), a + rr = bnn (A μ 20) p → m_G 90 14 [.ref 0, .ref (QA r), .ref (QA k), .ref (PA p), .int (nI w), .int (giv μ r p (bnn (A μ 20) p) 1), .int (nI (cnt (prV μ r k p q) (24 * a))), .int (nI a), v8, v9] [] μ = some (some (.int (match fst (atV μ r k p q w) (24 * rr) (24 * a) with
      | some t => -1 - nI t
      | none => nI (cnt (prV μ r k p q) (24 * bnn (A μ 20) p)))), μ) := by
    intro rr
    induction rr with
    | zero =>
      intro a v8 v9 har
      have : a = bnn (A μ 20) p := by omega
      rw [this, Nat.mul_zero]
      rw [i90_14]
      generalize cnt (prV μ r k p q) (24 * bnn (A μ 20) p) = N
      simp (disch := first | omega | decide | with_reducible assumption) only [i90_16, i90_17, i90_20, i90_107, i90_109, P_size hv, lt_f, b_v_s, b_i_s, b_n_s, b_r_s, b_r_n, b_m_s, b_c_s, b_c_v, if_false]
      rfl
    | succ rr ih =>
      intro a v8 v9 har
      have ha : a < bnn (A μ 20) p := by omega
      have hin := inner a ha 24 0 (by decide)
      rw [Nat.add_zero] at hin
      have go : m_G 90 14 [.ref 0, .ref (QA r), .ref (QA k), .ref (PA p), .int (nI w), .int (giv μ r p (bnn (A μ 20) p) 1), .int (nI (cnt (prV μ r k p q) (24 * a))), .int (nI a), v8, v9] [] μ = m_G 90 49 [.ref 0, .ref (QA r), .ref (QA k), .ref (PA p), .int (nI w), .int (giv μ r p (bnn (A μ 20) p) 1), .int (nI (cnt (prV μ r k p q) (24 * a))), .int (nI a), .int (kyV μ r k p a), .int (nI 0)] [] μ := by
        rw [i90_14]
        generalize cnt (prV μ r k p q) (24 * a) = N
        cases hbt : bt (giv μ r p (bnn (A μ 20) p) 1) a with
        | false =>
          have ek : kyV μ r k p a = -1 := by unfold kyV; rw [hbt, if_neg (by decide)]
          rw [ek]
          simp (disch := first | omega | decide | with_reducible assumption) only [i90_16, i90_17, i90_20, i90_23, i90_25, i90_27, i90_30, i90_33, i90_34, i90_35, i90_37, i90_40, i90_43, i90_44, i90_46, i90_47, P_size hv, lt_t, E_isIn, hbt, bI_0, b_v_s, b_i_s, b_n_s, b_r_s, b_r_n, b_m_s, b_c_s, b_c_v, if_true]
          rfl
        | true =>
          obtain ⟨_, c1, _⟩ := C_ky I hk hp hbt
          simp (disch := first | omega | decide | with_reducible assumption) only [i90_16, i90_17, i90_20, i90_23, i90_25, i90_27, i90_30, i90_33, i90_34, i90_35, i90_37, i90_40, i90_43, i90_44, i90_46, i90_47, P_size hv, lt_t, E_isIn, hbt, bI_0, Bool.true_eq_false, c1, b_v_s, b_i_s, b_n_s, b_r_s, b_r_n, b_m_s, b_c_s, b_c_v, if_true, if_false]
          rfl
      rw [go, hin, show 24 * (rr + 1) = 24 + 24 * rr by omega, fst_add]
      cases hf : fst (atV μ r k p q w) 24 (24 * a) with
      | some t => rfl
      | none =>
        dsimp only
        have ih' := ih (a + 1) (.int (kyV μ r k p a)) (.int (nI 24)) (by omega)
        rw [show 24 * (a + 1) = 24 * a + 24 by omega] at ih'
        rw [← ih', i90_49]
        generalize cnt (prV μ r k p q) (24 * a + 24) = N
        simp (disch := first | omega | decide | with_reducible assumption) only [i90_51, i90_53, i90_101, i90_104, n24, lt_f, if_false, nI_add1]
  have o := outer (bnn (A μ 20) p) 0 m_d m_d (by omega)
  simp (disch := first | omega | decide | with_reducible assumption) only [D90, i90_0, i90_1, i90_2, i90_3, i90_6, i90_8, i90_9, i90_11, i90_12, hd, b_v_s, b_i_s, b_n_s, b_r_s, b_r_n, b_m_s, b_c_s, b_c_v]
  exact o
/-- the value of a pair -/
def vlV (μ : mM) (l p q : Nat) (first : Bool) (t : Nat) : Int32 := if first = true then fwd μ l p (t / 24) else fwd μ l q (t % 24)
set_option maxHeartbeats 4000000 in
theorem E_joinLoop {r k l p q w : Nat} {W AK : Int32} {first : Bool} (I : INV C μ np nr nl ns PA QA LA sh) (hr : r < nr) (hk : k < nr) (hl : l < nr) (hp : p < np) (hq : q < np) (hw : w < 1000) (hW : W = 0 ∨ (AK = nI w ∧ ¬ W = 0 ∧ ¬ W ≤ 0 ∧ (W < 40) = (first = true))) (v13 v14 v15 : Value) : ∃ v13' v14' v15', m_G 163 118 [.ref 19, .int (nI r), .int (nI k), .int (nI l), .int (nI p), .int (nI q), .int W, .int (giv μ r p (bnn (A μ 20) p) 1), .int (giv μ r q (bnn (A μ 20) q) 1), .int 0, .int AK, .int (-2), .int 0, v13, v14, v15] [] μ = m_G 163 118 [.ref 19, .int (nI r), .int (nI k), .int (nI l), .int (nI p), .int (nI q), .int W, .int (giv μ r p (bnn (A μ 20) p) 1), .int (giv μ r q (bnn (A μ 20) q) 1), .int (nI (cnt (prV μ r k p q) 576)), .int AK, .int (if W = 0 then -2 else match fst (atV μ r k p q w) 576 0 with | some t => vlV μ l p q first t | none => -2), .int (nI 24), v13', v14', v15'] [] μ := by
  have hM := I_M I
  have hoM := oM_oc hM
  have fv : Nat → Int32 := fun t => if W = 0 then -2 else match fst (atV μ r k p q w) t 0 with | some t => vlV μ l p q first t | none => -2
  -- what is found grows only at the pair that is asked for
  have gro : ∀ t, fst (atV μ r k p q w) (t + 1) 0 = if atV μ r k p q w t = true then some t else fst (atV μ r k p q w) t 0 := by
    intro t
    rw [fst_snoc, Nat.zero_add]
    cases hf : fst (atV μ r k p q w) t 0 with
    | none => rfl
    | some s =>
      dsimp only
      obtain ⟨_, s2, s3, _⟩ := fst_some _ _ _ hf
      rw [if_neg]
      intro h
      unfold atV at h s3
      rw [Bool.and_eq_true, decide_eq_true_eq] at h s3
      have h1 : cnt (prV μ r k p q) (s + 1) ≤ cnt (prV μ r k p q) t := cnt_lt_mono _ (by omega)
      rw [cnt_st, s3.1, if_pos rfl] at h1
      omega
  obtain ⟨ν, v, e, rfl⟩ := loop_inv (fun a ν (v : Value × Value × Value) => m_G 163 118 [.ref 19, .int (nI r), .int (nI k), .int (nI l), .int (nI p), .int (nI q), .int W, .int (giv μ r p (bnn (A μ 20) p) 1), .int (giv μ r q (bnn (A μ 20) q) 1), .int (nI (cnt (prV μ r k p q) (24 * a))), .int AK, .int (if W = 0 then -2 else match fst (atV μ r k p q w) (24 * a) 0 with | some t => vlV μ l p q first t | none => -2), .int (nI a), v.1, v.2.1, v.2.2] [] ν) (fun a ν => ν = μ) 24 (fun a ν v ha P => by
    subst P
    obtain ⟨v13, v14, v15⟩ := v
    have go : m_G 163 118 [.ref 19, .int (nI r), .int (nI k), .int (nI l), .int (nI p), .int (nI q), .int W, .int (giv ν r p (bnn (A ν 20) p) 1), .int (giv ν r q (bnn (A ν 20) q) 1), .int (nI (cnt (prV ν r k p q) (24 * a))), .int AK, .int (if W = 0 then -2 else match fst (atV ν r k p q w) (24 * a) 0 with | some t => vlV ν l p q first t | none => -2), .int (nI a), v13, v14, v15] [] ν = m_G 163 153 [.ref 19, .int (nI r), .int (nI k), .int (nI l), .int (nI p), .int (nI q), .int W, .int (giv ν r p (bnn (A ν 20) p) 1), .int (giv ν r q (bnn (A ν 20) q) 1), .int (nI (cnt (prV ν r k p q) (24 * a))), .int AK, .int (if W = 0 then -2 else match fst (atV ν r k p q w) (24 * a) 0 with | some t => vlV ν l p q first t | none => -2), .int (nI a), .int (kyV ν r k p a), .int (nI 0), v15] [] ν := by
      rw [i163_118]
      generalize cnt (prV ν r k p q) (24 * a) = N
      generalize (if W = 0 then (-2 : Int32) else match fst (atV ν r k p q w) (24 * a) 0 with | some t => vlV ν l p q first t | none => -2) = F
      cases hbt : bt (giv ν r p (bnn (A ν 20) p) 1) a with
      | false =>
        have ek : kyV ν r k p a = -1 := by unfold kyV; rw [hbt, if_neg (by decide)]
        rw [ek]
        simp (disch := first | omega | decide | with_reducible assumption) only [i163_120, i163_122, i163_125, i163_127, i163_129, i163_132, i163_135, i163_136, i163_137, i163_139, i163_141, i163_144, i163_147, i163_148, i163_150, i163_151, n24, lt_t, E_has, hbt, bI_0, b_v_s, b_i_s, b_n_s, b_r_s, b_r_n, b_m_s, b_c_s, b_c_v, if_true]
        rfl
      | true =>
        obtain ⟨_, _, c1⟩ := C_ky I hk hp hbt
        simp (disch := first | omega | decide | with_reducible assumption) only [i163_120, i163_122, i163_125, i163_127, i163_129, i163_132, i163_135, i163_136, i163_137, i163_139, i163_141, i163_144, i163_147, i163_148, i163_150, i163_151, n24, lt_t, E_has, hbt, bI_0, Bool.true_eq_false, c1, b_v_s, b_i_s, b_n_s, b_r_s, b_r_n, b_m_s, b_c_s, b_c_v, if_true, if_false]
        rfl
    by_cases c1 : kyV ν r k p a = -1
    · -- no pairs with this row
      have nop : ∀ b, b < 24 → prV ν r k p q (24 * a + b) = false := fun b hb => by
        unfold prV
        rw [show (24 * a + b) / 24 = a by omega, decide_eq_false (fun z => z c1), Bool.false_and]
      have same : ∀ b, b ≤ 24 → cnt (prV ν r k p q) (24 * a + b) = cnt (prV ν r k p q) (24 * a) ∧ fst (atV ν r k p q w) (24 * a + b) 0 = fst (atV ν r k p q w) (24 * a) 0 := by
        intro b
        induction b with
        | zero => intro _; exact ⟨rfl, rfl⟩
        | succ b ih =>
          intro hb
          obtain ⟨i1, i2⟩ := ih (by omega)
          refine ⟨by rw [← Nat.add_assoc, cnt_st, nop b (by omega), if_neg (by decide), Nat.add_zero, i1], ?_⟩
          rw [← Nat.add_assoc, gro, i2, if_neg]
          unfold atV
          rw [nop b (by omega), Bool.false_and]; decide
      obtain ⟨s1, s2⟩ := same 24 (Nat.le_refl _)
      refine ⟨ν, (.int (-1), .int (nI 0), v15), ?_, rfl⟩
      try dsimp only
      rw [go, show 24 * (a + 1) = 24 * a + 24 by omega, s1, s2, c1]
      generalize cnt (prV ν r k p q) (24 * a) = N
      generalize (if W = 0 then (-2 : Int32) else match fst (atV ν r k p q w) (24 * a) 0 with | some t => vlV ν l p q first t | none => -2) = F
      rw [i163_153]
      simp (disch := first | omega | decide | with_reducible assumption) only [i163_155, i163_157, i163_160, i163_162, i163_163, i163_258, i163_261, n24, lt_t, if_true, nI_add1]
    · obtain ⟨ρ, v', e2, rfl⟩ := loop_inv (fun b ρ (v : Value) => m_G 163 153 [.ref 19, .int (nI r), .int (nI k), .int (nI l), .int (nI p), .int (nI q), .int W, .int (giv ν r p (bnn (A ν 20) p) 1), .int (giv ν r q (bnn (A ν 20) q) 1), .int (nI (cnt (prV ν r k p q) (24 * a + b))), .int AK, .int (if W = 0 then -2 else match fst (atV ν r k p q w) (24 * a + b) 0 with | some t => vlV ν l p q first t | none => -2), .int (nI a), .int (kyV ν r k p a), .int (nI b), v] [] ρ) (fun b ρ => ρ = ν) 24 (fun b ρ v hb P => by
        subst P
        have e1 : (24 * a + b) / 24 = a := by omega
        have e2 : (24 * a + b) % 24 = b := by omega
        have hpr : prV ρ r k p q (24 * a + b) = decide (kyV ρ r k q b = kyV ρ r k p a) := by unfold prV; rw [e1, e2, decide_eq_true c1, Bool.true_and]
        have hcl := cnt_le (prV ρ r k p q) (24 * a + b)
        have hat : atV ρ r k p q w (24 * a + b) = (prV ρ r k p q (24 * a + b) && decide (cnt (prV ρ r k p q) (24 * a + b) = w)) := rfl
        have hvl : vlV ρ l p q first (24 * a + b) = if first = true then fwd ρ l p a else fwd ρ l q b := by unfold vlV; rw [e1, e2]
        have nxt : fst (atV ρ r k p q w) (24 * a + (b + 1)) 0 = if atV ρ r k p q w (24 * a + b) = true then some (24 * a + b) else fst (atV ρ r k p q w) (24 * a + b) 0 := by rw [← Nat.add_assoc, gro]
        have nxc : cnt (prV ρ r k p q) (24 * a + (b + 1)) = cnt (prV ρ r k p q) (24 * a + b) + (if prV ρ r k p q (24 * a + b) = true then 1 else 0) := by rw [← Nat.add_assoc, cnt_st]
        rw [nxt, nxc, hat]
        have skip : prV ρ r k p q (24 * a + b) = false → (∀ N F (v : Value), m_G 163 153 [.ref 19, .int (nI r), .int (nI k), .int (nI l), .int (nI p), .int (nI q), .int W, .int (giv ρ r p (bnn (A ρ 20) p) 1), .int (giv ρ r q (bnn (A ρ 20) q) 1), .int N, .int AK, .int F, .int (nI a), .int (kyV ρ r k p a), .int (nI b), v] [] ρ = m_G 163 252 [.ref 19, .int (nI r), .int (nI k), .int (nI l), .int (nI p), .int (nI q), .int W, .int (giv ρ r p (bnn (A ρ 20) p) 1), .int (giv ρ r q (bnn (A ρ 20) q) 1), .int N, .int AK, .int F, .int (nI a), .int (kyV ρ r k p a), .int (nI b), v] [] ρ) := by
          intro hno N F v
          rw [hpr, decide_eq_false_iff_not] at hno
          rw [i163_153]
          cases hbt : bt (giv ρ r q (bnn (A ρ 20) q) 1) b with
          | false => simp (disch := first | omega | decide | with_reducible assumption) only [i163_155, i163_157, i163_160, i163_162, i163_163, i163_166, i163_168, i163_170, i163_173, n24, lt_t, c1, E_has, hbt, bI_0, b_v_s, b_i_s, b_n_s, b_r_s, b_r_n, b_m_s, b_c_s, b_c_v, if_true, if_false]
          | true =>
            obtain ⟨_, _, c2⟩ := C_ky I hk hq hbt
            simp (disch := first | omega | decide | with_reducible assumption) only [i163_155, i163_157, i163_160, i163_162, i163_163, i163_166, i163_168, i163_170, i163_173, i163_176, i163_177, i163_178, i163_180, i163_182, i163_185, i163_187, n24, lt_t, c1, E_has, hbt, bI_0, Bool.true_eq_false, c2, hno, b_v_s, b_i_s, b_n_s, b_r_s, b_r_n, b_m_s, b_c_s, b_c_v, if_true, if_false]
        have hit : prV ρ r k p q (24 * a + b) = true → bt (giv ρ r p (bnn (A ρ 20) p) 1) a = true ∧ bt (giv ρ r q (bnn (A ρ 20) q) 1) b = true ∧ (∀ N F (v : Value), m_G 163 153 [.ref 19, .int (nI r), .int (nI k), .int (nI l), .int (nI p), .int (nI q), .int W, .int (giv ρ r p (bnn (A ρ 20) p) 1), .int (giv ρ r q (bnn (A ρ 20) q) 1), .int N, .int AK, .int F, .int (nI a), .int (kyV ρ r k p a), .int (nI b), v] [] ρ = m_G 163 190 [.ref 19, .int (nI r), .int (nI k), .int (nI l), .int (nI p), .int (nI q), .int W, .int (giv ρ r p (bnn (A ρ 20) p) 1), .int (giv ρ r q (bnn (A ρ 20) q) 1), .int N, .int AK, .int F, .int (nI a), .int (kyV ρ r k p a), .int (nI b), v] [] ρ) := by
          intro hyes
          rw [hpr, decide_eq_true_eq] at hyes
          have h1 : bt (giv ρ r p (bnn (A ρ 20) p) 1) a = true := by
            cases hbt : bt (giv ρ r p (bnn (A ρ 20) p) 1) a with
            | true => rfl
            | false => exact absurd (by unfold kyV; rw [hbt, if_neg (by decide)]) c1
          have h2 : bt (giv ρ r q (bnn (A ρ 20) q) 1) b = true := by
            cases hbt : bt (giv ρ r q (bnn (A ρ 20) q) 1) b with
            | true => rfl
            | false => exact absurd (by rw [← hyes]; unfold kyV; rw [hbt, if_neg (by decide)]) c1
          refine ⟨h1, h2, fun N F v => ?_⟩
          obtain ⟨_, _, c2⟩ := C_ky I hk hq h2
          rw [hyes] at c2
          rw [i163_153]
          simp (disch := first | omega | decide | with_reducible assumption) only [i163_155, i163_157, i163_160, i163_162, i163_163, i163_166, i163_168, i163_170, i163_173, i163_176, i163_177, i163_178, i163_180, i163_182, i163_185, i163_187, n24, lt_t, c1, E_has, h2, bI_0, Bool.true_eq_false, c2, b_v_s, b_i_s, b_n_s, b_r_s, b_r_n, b_m_s, b_c_s, b_c_v, if_true, if_false]
        generalize cnt (prV ρ r k p q) (24 * a + b) = N at *
        generalize fst (atV ρ r k p q w) (24 * a + b) 0 = FO at *
        cases hP : prV ρ r k p q (24 * a + b) with
        | false =>
          refine ⟨ρ, v, ?_, rfl⟩
          try dsimp only
          rw [skip hP, Bool.false_and, if_neg (show ¬ (false = true) by decide), if_neg (show ¬ (false = true) by decide), Nat.add_zero]
          generalize (if W = 0 then (-2 : Int32) else match FO with | some t => vlV ρ l p q first t | none => -2) = F
          simp (disch := first | omega | decide | with_reducible assumption) only [i163_252, i163_255, nI_add1]
        | true =>
          obtain ⟨h1, h2, hgo⟩ := hit hP
          rw [Bool.true_and, if_pos rfl]
          have ap := (C_ky (r := r) I hl hp h1).1
          have bq := (C_ky (r := r) I hl hq h2).1
          have w1 := E_firstWord I hl hp ap
          have w2 := E_firstWord I hl hq bq
          rcases hW with hW0 | ⟨hAK, hW0, hWl, hWf⟩
          · have le0 : ((0 : Int32) ≤ 0) = True := eq_true (by decide)
            refine ⟨ρ, .int 0, ?_, rfl⟩
            try dsimp only
            rw [hgo, if_pos hW0, if_pos hW0, hW0]
            have lt00 : ((0 : Int32) < 0) = False := eq_false (by decide)
            simp (disch := first | omega | decide | with_reducible assumption) only [i163_190, i163_192, i163_195, i163_197, i163_199, i163_202, i163_203, i163_206, i163_207, i163_209, i163_211, i163_214, i163_216, i163_218, i163_221, i163_222, i163_223, i163_225, i163_227, i163_230, i163_233, i163_234, i163_235, i163_237, i163_239, i163_242, i163_245, i163_247, i163_249, i163_252, i163_255, le0, lt00, b_v_s, b_i_s, b_n_s, b_r_s, b_r_n, b_m_s, b_c_s, b_c_v, if_true, if_false, nI_add1]
          · by_cases c3 : N = w
            · refine ⟨ρ, .int 1, ?_, rfl⟩
              try dsimp only
              rw [hgo, if_neg hW0, if_neg hW0, decide_eq_true c3, if_pos rfl]
              generalize (match FO with | some t => vlV ρ l p q first t | none => (-2 : Int32)) = F
              dsimp only
              rw [hvl]
              have eAK : (nI N = AK) = True := by rw [hAK, c3]; exact eq_true rfl
              cases first with
              | true =>
                have lt40 : (W < 40) = True := by rw [hWf]; exact eq_true rfl
                simp (disch := first | omega | decide | with_reducible assumption) only [i163_190, i163_192, i163_195, i163_197, i163_199, i163_202, i163_203, i163_206, i163_207, i163_209, i163_211, i163_214, i163_216, i163_218, i163_221, i163_222, i163_223, i163_225, i163_227, i163_230, i163_233, i163_234, i163_235, i163_237, i163_239, i163_242, i163_245, i163_247, i163_249, i163_252, i163_255, hWl, eAK, ne10, lt40, w1, b_v_s, b_i_s, b_n_s, b_r_s, b_r_n, b_m_s, b_c_s, b_c_v, if_true, if_false, nI_add1]
              | false =>
                have lt40 : (W < 40) = False := by rw [hWf]; exact eq_false (by decide)
                simp (disch := first | omega | decide | with_reducible assumption) only [i163_190, i163_192, i163_195, i163_197, i163_199, i163_202, i163_203, i163_206, i163_207, i163_209, i163_211, i163_214, i163_216, i163_218, i163_221, i163_222, i163_223, i163_225, i163_227, i163_230, i163_233, i163_234, i163_235, i163_237, i163_239, i163_242, i163_245, i163_247, i163_249, i163_252, i163_255, hWl, eAK, ne10, lt40, w2, Bool.false_eq_true, b_v_s, b_i_s, b_n_s, b_r_s, b_r_n, b_m_s, b_c_s, b_c_v, if_true, if_false, nI_add1]
            · refine ⟨ρ, .int 0, ?_, rfl⟩
              try dsimp only
              rw [hgo, if_neg hW0, if_neg hW0, decide_eq_false c3, if_neg (by decide)]
              generalize (match FO with | some t => vlV ρ l p q first t | none => (-2 : Int32)) = F
              have eAK : (nI N = AK) = False := by rw [hAK, nI_eqE (by omega) (by omega)]; exact eq_false c3
              simp (disch := first | omega | decide | with_reducible assumption) only [i163_190, i163_192, i163_195, i163_197, i163_199, i163_202, i163_203, i163_206, i163_207, i163_209, i163_211, i163_214, i163_216, i163_218, i163_221, i163_222, i163_223, i163_225, i163_227, i163_230, i163_233, i163_234, i163_235, i163_237, i163_239, i163_242, i163_245, i163_247, i163_249, i163_252, i163_255, hWl, eAK, b_v_s, b_i_s, b_n_s, b_r_s, b_r_n, b_m_s, b_c_s, b_c_v, if_true, if_false, nI_add1]) ν v15 rfl
      refine ⟨ρ, (.int (kyV ρ r k p a), .int (nI 24), v'), ?_, rfl⟩
      try dsimp only
      rw [go]
      refine (show _ = _ from e2).trans ?_
      try dsimp only
      rw [show 24 * (a + 1) = 24 * a + 24 by omega]
      generalize cnt (prV ρ r k p q) (24 * a + 24) = N
      generalize (if W = 0 then (-2 : Int32) else match fst (atV ρ r k p q w) (24 * a + 24) 0 with | some t => vlV ρ l p q first t | none => -2) = F
      rw [i163_153]
      simp (disch := first | omega | decide | with_reducible assumption) only [i163_155, i163_157, i163_258, i163_261, n24, lt_f, if_false, nI_add1]) μ (v13, v14, v15) rfl
  refine ⟨v.1, v.2.1, v.2.2, ?_⟩
  refine Eq.trans ?_ (e.trans rfl)
  show _ = m_G _ _ _ _ _
  congr 3
  split <;> rfl
theorem pr_hi {r k p q t : Nat} (I : INV C μ np nr nl ns PA QA LA sh) (hp : p < np) (ht : 24 * bnn (A μ 20) p ≤ t) : prV μ r k p q t = false := by
  unfold prV
  rw [kyV_hi I hp (by omega), decide_eq_false (fun z => z rfl), Bool.false_and]
theorem cnt_tail (P : Nat → Bool) {a b : Nat} (hab : a ≤ b) (h : ∀ t, a ≤ t → t < b → P t = false) : cnt P b = cnt P a ∧ ∀ Q : Nat → Bool, (∀ t, P t = false → Q t = false) → fst Q b 0 = fst Q a 0 := by
  induction b with
  | zero => rw [Nat.le_zero.mp hab]; exact ⟨rfl, fun _ _ => rfl⟩
  | succ b ih =>
    rcases Nat.lt_or_ge a (b + 1) with q | q
    · obtain ⟨i1, i2⟩ := ih (by omega) (fun t h1 h2 => h t h1 (by omega))
      have hb := h b (by omega) (by omega)
      refine ⟨by rw [cnt_st, hb, if_neg (by decide), Nat.add_zero, i1], fun Q hQ => ?_⟩
      rw [fst_snoc, Nat.zero_add, i2 Q hQ, hQ b hb]
      cases fst Q a 0 <;> simp
    · rw [Nat.le_antisymm hab q]; exact ⟨rfl, fun _ _ => rfl⟩
theorem in_1069 {x : Int32} : m_D 102 [.long x.toInt64, .long 10, .long 69] μ = some (some (.int (bI (decide (10 ≤ x.toInt ∧ x.toInt ≤ 69)))), μ) := by
  rw [E_in, toInt_i2l, show (10 : Int64).toInt = 10 by decide, show (69 : Int64).toInt = 69 by decide, ← Bool.decide_and]
theorem m1_m1 (t : Nat) : (-1 : Int32) - (-1 - nI t) = nI t := by rw [Int32.sub_eq_add_neg, Int32.neg_sub, Int32.sub_eq_add_neg, ← Int32.add_assoc, Int32.add_comm (-1) (nI t), Int32.add_assoc, show (-1 : Int32) + - -1 = 0 by decide, Int32.add_zero]
theorem m1_neg {t : Nat} (ht : t < 1000000) : ((-1 : Int32) - nI t < 0) = True := by
  refine eq_true ?_
  rw [Int32.lt_iff_toInt_lt, show (0 : Int32).toInt = 0 by decide, Int32.toInt_sub, nI_toInt (by omega), show (-1 : Int32).toInt = -1 by decide]
  rw [Int.bmod_eq_of_le (by omega) (by omega)]
  omega
theorem bt_of_ky {r k p a : Nat} (h : ¬ kyV μ r k p a = -1) : bt (giv μ r p (bnn (A μ 20) p) 1) a = true := by
  cases hbt : bt (giv μ r p (bnn (A μ 20) p) 1) a with
  | true => rfl
  | false => exact absurd (by unfold kyV; rw [hbt, if_neg (by decide)]) h
set_option maxHeartbeats 4000000 in
theorem call_joined (x1 x2 x3 x4 x5 W : Int32) : CallOK C 88 163 [.int x1, .int x2, .int x3, .int x4, .int x5, .int W] := by
  rintro μ ⟨np, nr, nl, ns, PA, QA, LA, sh, I⟩
  have hC := I_C I
  have hoC := CV_oc hC
  have hM := I_M I
  have hoM := oM_oc hM
  have h8 := I_np I
  have r1 : ∀ ν : mM, INV C ν np nr nl ns PA QA LA sh → m_D 117 [.ref 19, .int x1] ν = some (some (.int (bI (inR x1 nr))), ν) := fun ν J => I_isRule J x1
  have bad : (inR x1 nr && (inR x2 nr && (inR x3 nr && (inR x4 np && inR x5 np)))) = false → ∃ v μ1 μ2, m_D 88 (.ref 0 :: [.int x1, .int x2, .int x3, .int x4, .int x5, .int W]) μ = some (some (.int v), μ1) ∧ m_D 163 (.ref 19 :: [.int x1, .int x2, .int x3, .int x4, .int x5, .int W]) μ1 = some (some (.int v), μ2) ∧ OKc C μ2 := by
    intro hbad
    refine ⟨(-101), μ, μ, ?_, ?_, I_ok I⟩
    · cases h1 : inR x1 nr <;> cases h2 : inR x2 nr <;> cases h3 : inR x3 nr <;> cases h4 : inR x4 np <;> cases h5 : inR x5 np <;> (first | (rw [h1, h2, h3, h4, h5] at hbad; exact absurd hbad (by decide)) | skip) <;> (
        (first | have a1 := C_ruleAtN I h1 | (obtain ⟨r, hr1, rfl⟩ := inR_nI h1; have a1 := C_ruleAt I hr1))
        (first | have a2 := C_ruleAtN I h2 | (obtain ⟨r, hr1, rfl⟩ := inR_nI h2; have a2 := C_ruleAt I hr1))
        (first | have a3 := C_ruleAtN I h3 | (obtain ⟨r, hr1, rfl⟩ := inR_nI h3; have a3 := C_ruleAt I hr1))
        (first | have a4 := C_pageAtN I h4 | (obtain ⟨r, hr1, rfl⟩ := inR_nI h4; have a4 := C_pageAt I hr1))
        (first | have a5 := C_pageAtN I h5 | (obtain ⟨r, hr1, rfl⟩ := inR_nI h5; have a5 := C_pageAt I hr1))
        simp (disch := first | omega | decide | with_reducible assumption) only [D88, i88_0, i88_1, i88_2, i88_5, i88_5N, i88_7, i88_8, i88_9, i88_12, i88_12N, i88_14, i88_15, i88_16, i88_19, i88_19N, i88_21, i88_22, i88_24, i88_27, i88_27N, i88_29, i88_30, i88_32, i88_35, i88_35N, i88_37, i88_37N, i88_39, i88_39N, i88_42, i88_42N, i88_44, i88_44N, i88_47, i88_47N, i88_49, i88_49N, i88_52, i88_52N, i88_54, i88_54N, i88_57, i88_57N, i88_59, i88_59N, i88_62, i88_64, a1, a2, a3, a4, a5, b_v_s, b_i_s, b_n_s, b_r_s, b_r_n, b_m_s, b_c_s, b_c_v])
    · have e1 := I_isRule I x1
      have e2 := I_isRule I x2
      have e3 := I_isRule I x3
      have e4 := I_isPage I x4
      have e5 := I_isPage I x5
      cases h1 : inR x1 nr with
      | false => rw [h1] at e1; simp (disch := first | omega | decide | with_reducible assumption) only [D163, i163_0, i163_1, i163_2, i163_5, i163_8, i163_9, i163_10, i163_13, i163_16, i163_17, i163_18, i163_21, i163_24, i163_25, i163_27, i163_30, i163_33, i163_34, i163_36, i163_39, i163_42, i163_44, e1, bI_0, b_v_s, b_i_s, b_n_s, b_r_s, b_r_n, b_m_s, b_c_s, b_c_v, if_true]
      | true =>
        rw [h1] at e1
        cases h2 : inR x2 nr with
        | false => rw [h2] at e2; simp (disch := first | omega | decide | with_reducible assumption) only [D163, i163_0, i163_1, i163_2, i163_5, i163_8, i163_9, i163_10, i163_13, i163_16, i163_17, i163_18, i163_21, i163_24, i163_25, i163_27, i163_30, i163_33, i163_34, i163_36, i163_39, i163_42, i163_44, e1, e2, bI_0, Bool.true_eq_false, b_v_s, b_i_s, b_n_s, b_r_s, b_r_n, b_m_s, b_c_s, b_c_v, if_true, if_false]
        | true =>
          rw [h2] at e2
          cases h3 : inR x3 nr with
          | false => rw [h3] at e3; simp (disch := first | omega | decide | with_reducible assumption) only [D163, i163_0, i163_1, i163_2, i163_5, i163_8, i163_9, i163_10, i163_13, i163_16, i163_17, i163_18, i163_21, i163_24, i163_25, i163_27, i163_30, i163_33, i163_34, i163_36, i163_39, i163_42, i163_44, e1, e2, e3, bI_0, Bool.true_eq_false, b_v_s, b_i_s, b_n_s, b_r_s, b_r_n, b_m_s, b_c_s, b_c_v, if_true, if_false]
          | true =>
            rw [h3] at e3
            cases h4 : inR x4 np with
            | false => rw [h4] at e4; simp (disch := first | omega | decide | with_reducible assumption) only [D163, i163_0, i163_1, i163_2, i163_5, i163_8, i163_9, i163_10, i163_13, i163_16, i163_17, i163_18, i163_21, i163_24, i163_25, i163_27, i163_30, i163_33, i163_34, i163_36, i163_39, i163_42, i163_44, e1, e2, e3, e4, bI_0, Bool.true_eq_false, b_v_s, b_i_s, b_n_s, b_r_s, b_r_n, b_m_s, b_c_s, b_c_v, if_true, if_false]
            | true =>
              rw [h4] at e4
              cases h5 : inR x5 np with
              | false => rw [h5] at e5; simp (disch := first | omega | decide | with_reducible assumption) only [D163, i163_0, i163_1, i163_2, i163_5, i163_8, i163_9, i163_10, i163_13, i163_16, i163_17, i163_18, i163_21, i163_24, i163_25, i163_27, i163_30, i163_33, i163_34, i163_36, i163_39, i163_42, i163_44, e1, e2, e3, e4, e5, bI_0, Bool.true_eq_false, b_v_s, b_i_s, b_n_s, b_r_s, b_r_n, b_m_s, b_c_s, b_c_v, if_true, if_false]
              | true => rw [h1, h2, h3, h4, h5] at hbad; cases hbad
  cases h1 : inR x1 nr with
  | false => exact bad (by rw [h1]; rfl)
  | true => cases h2 : inR x2 nr with
    | false => exact bad (by rw [h2, Bool.false_and, Bool.and_false])
    | true => cases h3 : inR x3 nr with
      | false => exact bad (by rw [h3, Bool.false_and, Bool.and_false, Bool.and_false])
      | true => cases h4 : inR x4 np with
        | false => exact bad (by rw [h4, Bool.false_and, Bool.and_false, Bool.and_false, Bool.and_false])
        | true => cases h5 : inR x5 np with
          | false => exact bad (by rw [h5, Bool.and_false, Bool.and_false, Bool.and_false, Bool.and_false])
          | true =>
            clear bad
            obtain ⟨r, hr, rfl⟩ := inR_nI h1
            obtain ⟨k, hk, rfl⟩ := inR_nI h2
            obtain ⟨l, hl, rfl⟩ := inR_nI h3
            obtain ⟨p, hp, rfl⟩ := inR_nI h4
            obtain ⟨q, hq, rfl⟩ := inR_nI h5
            have hor := (I_ru I hr).2.2.2
            have hol := (I_ru I hl).2.2.2
            have go1 : m_D 88 [.ref 0, .int (nI r), .int (nI k), .int (nI l), .int (nI p), .int (nI q), .int W] μ = m_G 88 65 [.ref 0, .int (nI r), .int (nI k), .int (nI l), .int (nI p), .int (nI q), .int W, .ref (QA r), .ref (QA k), .ref (QA l), .ref (PA p), .ref (PA q), m_d, m_d, m_d] [] μ := by
              simp (disch := first | omega | decide | with_reducible assumption) only [D88, i88_0, i88_1, i88_2, i88_5, i88_5N, i88_7, i88_8, i88_9, i88_12, i88_12N, i88_14, i88_15, i88_16, i88_19, i88_19N, i88_21, i88_22, i88_24, i88_27, i88_27N, i88_29, i88_30, i88_32, i88_35, i88_35N, i88_37, i88_37N, i88_39, i88_39N, i88_42, i88_42N, i88_44, i88_44N, i88_47, i88_47N, i88_49, i88_49N, i88_52, i88_52N, i88_54, i88_54N, i88_57, i88_57N, i88_59, i88_59N, C_ruleAt I hr, C_ruleAt I hk, C_ruleAt I hl, C_pageAt I hp, C_pageAt I hq, b_v_s, b_i_s, b_n_s, b_r_s, b_r_n, b_m_s, b_c_s, b_c_v]
            have go2 : ∀ ν : mM, INV C ν np nr nl ns PA QA LA sh → m_D 163 [.ref 19, .int (nI r), .int (nI k), .int (nI l), .int (nI p), .int (nI q), .int W] ν = m_G 163 45 [.ref 19, .int (nI r), .int (nI k), .int (nI l), .int (nI p), .int (nI q), .int W, m_d, m_d, m_d, m_d, m_d, m_d, m_d, m_d, m_d] [] ν := fun ν J => by
              have hoν := oM_oc (I_M J)
              have e1 := I_isRule J (nI r)
              have e2 := I_isRule J (nI k)
              have e3 := I_isRule J (nI l)
              have e4 := I_isPage J (nI p)
              have e5 := I_isPage J (nI q)
              rw [h1] at e1; rw [h2] at e2; rw [h3] at e3; rw [h4] at e4; rw [h5] at e5
              simp (disch := first | omega | decide | with_reducible assumption) only [D163, i163_0, i163_1, i163_2, i163_5, i163_8, i163_9, i163_10, i163_13, i163_16, i163_17, i163_18, i163_21, i163_24, i163_25, i163_27, i163_30, i163_33, i163_34, i163_36, i163_39, e1, e2, e3, e4, e5, bI_0, Bool.true_eq_false, b_v_s, b_i_s, b_n_s, b_r_s, b_r_n, b_m_s, b_c_s, b_c_v, if_false]
            by_cases wok : W = 0 ∨ (10 ≤ W.toInt ∧ W.toInt ≤ 69)
            · have go3 : m_G 88 65 [.ref 0, .int (nI r), .int (nI k), .int (nI l), .int (nI p), .int (nI q), .int W, .ref (QA r), .ref (QA k), .ref (QA l), .ref (PA p), .ref (PA q), m_d, m_d, m_d] [] μ = m_G 88 87 [.ref 0, .int (nI r), .int (nI k), .int (nI l), .int (nI p), .int (nI q), .int W, .ref (QA r), .ref (QA k), .ref (QA l), .ref (PA p), .ref (PA q), m_d, m_d, m_d] [] μ := by
                by_cases d0 : W = 0
                · simp (disch := first | omega | decide | with_reducible assumption) only [i88_65, i88_67, i88_70, i88_72, i88_74, i88_77, i88_79, i88_81, d0, if_true]
                · have d1 : 10 ≤ W.toInt ∧ W.toInt ≤ 69 := wok.elim (fun z => absurd z d0) id
                  have d2 : ¬ W < 10 := by rw [Int32.lt_iff_toInt_lt, show (10 : Int32).toInt = 10 by decide]; omega
                  have d3 : ¬ (69 : Int32) < W := by rw [Int32.lt_iff_toInt_lt, show (69 : Int32).toInt = 69 by decide]; omega
                  simp (disch := first | omega | decide | with_reducible assumption) only [i88_65, i88_67, i88_70, i88_72, i88_74, i88_77, i88_79, i88_81, d0, d2, d3, if_false]
              obtain ⟨ν, e1, s1, f1⟩ := C_setOther I hr hk hq
              have J := INV_K I s1 (by decide) (by decide)
              have hCν := I_C J
              have hoCν := CV_oc hCν
              have f1' : ∀ b, b < 24 → A ν 18 b = kyV ν r k q b := fun b hb => by rw [K_kyV s1 (by decide)]; exact f1 b hb
              have hMν := I_M J
              have hoν := oM_oc hMν
              obtain ⟨h8p, hbp, h1p, h24p, _⟩ := I_pg J hp
              have tl := cnt_tail (prV ν r k p q) (a := 24 * bnn (A ν 20) p) (b := 576) (by omega) (fun t t1 _ => pr_hi J hp t1)
              have cls : m_D 88 [.ref 0, .int (nI r), .int (nI k), .int (nI l), .int (nI p), .int (nI q), .int W] μ = m_G 88 97 [.ref 0, .int (nI r), .int (nI k), .int (nI l), .int (nI p), .int (nI q), .int W, .ref (QA r), .ref (QA k), .ref (QA l), .ref (PA p), .ref (PA q), m_d, m_d, m_d] [] ν := by
                rw [go1, go3]
                simp (disch := first | omega | decide | with_reducible assumption) only [i88_87, i88_88, i88_88N, i88_90, i88_90N, i88_92, i88_92N, i88_94, e1, b_v_s, b_i_s, b_n_s, b_r_s, b_r_n, b_m_s, b_c_s, b_c_v]
              have mdl : ∀ (AK : Int32), AK = (if W < 40 then W - 10 else W - 40) → m_D 163 [.ref 19, .int (nI r), .int (nI k), .int (nI l), .int (nI p), .int (nI q), .int W] ν = m_G 163 118 [.ref 19, .int (nI r), .int (nI k), .int (nI l), .int (nI p), .int (nI q), .int W, .int (giv ν r p (bnn (A ν 20) p) 1), .int (giv ν r q (bnn (A ν 20) q) 1), .int 0, .int AK, .int (-2), .int 0, m_d, m_d, m_d] [] ν := by
                intro AK hAK
                rw [go2 ν J]
                have g1 := E_gn J hr hp
                have g2 := E_gn J hr hq
                have pre : m_G 163 45 [.ref 19, .int (nI r), .int (nI k), .int (nI l), .int (nI p), .int (nI q), .int W, m_d, m_d, m_d, m_d, m_d, m_d, m_d, m_d, m_d] [] ν = m_G 163 68 [.ref 19, .int (nI r), .int (nI k), .int (nI l), .int (nI p), .int (nI q), .int W, m_d, m_d, m_d, m_d, m_d, m_d, m_d, m_d, m_d] [] ν := by
                  by_cases d0 : W = 0
                  · simp (disch := first | omega | decide | with_reducible assumption) only [i163_45, i163_47, i163_50, i163_52, i163_53, i163_56, i163_59, i163_62, d0, if_true]
                  · have i69 := in_1069 (μ := ν) (x := W)
                    rw [decide_eq_true (show 10 ≤ W.toInt ∧ W.toInt ≤ 69 from wok.elim (fun z => absurd z d0) id)] at i69
                    simp (disch := first | omega | decide | with_reducible assumption) only [i163_45, i163_47, i163_50, i163_52, i163_53, i163_56, i163_59, i163_62, d0, i69, bI_0, Bool.true_eq_false, b_v_s, b_i_s, b_n_s, b_r_s, b_r_n, b_m_s, b_c_s, b_c_v, if_false]
                rw [pre, hAK]
                by_cases d : W < 40
                · rw [if_pos d]
                  simp (disch := first | omega | decide | with_reducible assumption) only [i163_68, i163_69, i163_70, i163_72, i163_75, i163_77, i163_78, i163_79, i163_81, i163_84, i163_86, i163_87, i163_89, i163_91, i163_93, i163_96, i163_98, i163_100, i163_101, i163_104, i163_106, i163_108, i163_109, i163_111, i163_113, i163_115, i163_116, g1, g2, d, b_v_s, b_i_s, b_n_s, b_r_s, b_r_n, b_m_s, b_c_s, b_c_v, if_true]
                · rw [if_neg d]
                  simp (disch := first | omega | decide | with_reducible assumption) only [i163_68, i163_69, i163_70, i163_72, i163_75, i163_77, i163_78, i163_79, i163_81, i163_84, i163_86, i163_87, i163_89, i163_91, i163_93, i163_96, i163_98, i163_100, i163_101, i163_104, i163_106, i163_108, i163_109, i163_111, i163_113, i163_115, i163_116, g1, g2, d, b_v_s, b_i_s, b_n_s, b_r_s, b_r_n, b_m_s, b_c_s, b_c_v, if_false]
              have fin : ∀ (N F : Int32) (v13 v14 v15 : Value) (AK : Int32), m_G 163 118 [.ref 19, .int (nI r), .int (nI k), .int (nI l), .int (nI p), .int (nI q), .int W, .int (giv ν r p (bnn (A ν 20) p) 1), .int (giv ν r q (bnn (A ν 20) q) 1), .int N, .int AK, .int F, .int (nI 24), v13, v14, v15] [] ν = some (some (.int (if W = 0 then N else F)), ν) := by
                intro N F v13 v14 v15 AK
                rw [i163_118]
                by_cases d0 : W = 0
                · rw [if_pos d0]
                  simp (disch := first | omega | decide | with_reducible assumption) only [i163_120, i163_122, i163_264, i163_266, i163_269, i163_271, i163_274, i163_276, n24, lt_f, d0, if_true, if_false]
                · rw [if_neg d0]
                  simp (disch := first | omega | decide | with_reducible assumption) only [i163_120, i163_122, i163_264, i163_266, i163_269, i163_271, i163_274, i163_276, n24, lt_f, d0, if_false]
              by_cases d0 : W = 0
              · have pu := C_pairsUpTo (w := 576) J hr hk hp (by decide) f1'
                have none576 : fst (atV ν r k p q 576) (24 * bnn (A ν 20) p) 0 = none := by
                  cases hf : fst (atV ν r k p q 576) (24 * bnn (A ν 20) p) 0 with
                  | none => rfl
                  | some t =>
                    obtain ⟨_, t2, t3, _⟩ := fst_some _ _ _ hf
                    unfold atV at t3
                    rw [Bool.and_eq_true, decide_eq_true_eq] at t3
                    have := cnt_le (prV ν r k p q) t
                    omega
                rw [none576] at pu
                dsimp only at pu
                rw [← tl.1] at pu
                have n576 : (576 : Int32) = nI 576 := rfl
                obtain ⟨v13, v14, v15, ej⟩ := E_joinLoop (w := 0) (W := W) (AK := if W < 40 then W - 10 else W - 40) (first := true) J hr hk hl hp hq (by decide) (Or.inl d0) m_d m_d m_d
                refine ⟨(nI (cnt (prV ν r k p q) 576)), ν, ν, ?_, ?_, I_ok J⟩
                · rw [cls]
                  simp (disch := first | omega | decide | with_reducible assumption) only [i88_97, i88_99, i88_102, i88_103, i88_103N, i88_105, i88_105N, i88_107, i88_107N, i88_109, i88_112, i88_115, d0, n576, pu, b_v_s, b_i_s, b_n_s, b_r_s, b_r_n, b_m_s, b_c_s, b_c_v, if_true]
                · rw [mdl _ rfl, ej, fin, if_pos d0]
              · have d1 : 10 ≤ W.toInt ∧ W.toInt ≤ 69 := wok.elim (fun z => absurd z d0) id
                obtain ⟨t, ht, hWt⟩ : ∃ t, (10 ≤ t ∧ t ≤ 69) ∧ W = nI t := ⟨W.toInt.toNat, by omega, Int32.toInt_inj.mp (by rw [nI_toInt (by omega)]; omega)⟩
                have n40' : (40 : Int32) = nI 40 := rfl
                have hlt : (W < 40) = (t < 40) := by rw [hWt, n40', nI_ltE (by omega) (by decide)]
                obtain ⟨w, hw, hAK⟩ : ∃ w, w < 1000 ∧ (if W < 40 then W - 10 else W - 40) = nI w := by
                  by_cases d : W < 40
                  · rw [if_pos d, hWt, n10, nI_minus (by omega)]; exact ⟨t - 10, by omega, rfl⟩
                  · rw [if_neg d]
                    rw [hlt] at d
                    rw [hWt, n40', nI_minus (by omega)]; exact ⟨t - 40, by omega, rfl⟩
                have pu := C_pairsUpTo (w := w) J hr hk hp hw f1'
                rw [← tl.2 (atV ν r k p q w) (fun t ht => by unfold atV; rw [ht, Bool.false_and]), ← tl.1] at pu
                have hWl : ¬ W ≤ 0 := by rw [Int32.le_iff_toInt_le, show (0 : Int32).toInt = 0 by decide]; omega
                obtain ⟨v13, v14, v15, ej⟩ := E_joinLoop (w := w) (W := W) (AK := nI w) (first := decide (W < 40)) J hr hk hl hp hq hw (Or.inr ⟨rfl, d0, hWl, by rw [decide_eq_true_eq]⟩) m_d m_d m_d
                have clsA : m_D 88 [.ref 0, .int (nI r), .int (nI k), .int (nI l), .int (nI p), .int (nI q), .int W] μ = m_G 88 136 [.ref 0, .int (nI r), .int (nI k), .int (nI l), .int (nI p), .int (nI q), .int W, .ref (QA r), .ref (QA k), .ref (QA l), .ref (PA p), .ref (PA q), m_d, m_d, m_d] [.int (nI w)] ν := by
                  rw [cls, ← hAK]
                  by_cases d : W < 40
                  · rw [if_pos d]
                    simp (disch := first | omega | decide | with_reducible assumption) only [i88_97, i88_99, i88_116, i88_118, i88_120, i88_123, i88_125, i88_127, i88_128, i88_131, i88_133, i88_135, d0, d, if_true, if_false]
                  · rw [if_neg d]
                    simp (disch := first | omega | decide | with_reducible assumption) only [i88_97, i88_99, i88_116, i88_118, i88_120, i88_123, i88_125, i88_127, i88_128, i88_131, i88_133, i88_135, d0, d, if_false]
                have holν := (I_ru J hl).2.2.2
                have hcl := cnt_le (prV ν r k p q) 576
                cases hf : fst (atV ν r k p q w) 576 0 with
                | none =>
                  rw [hf] at pu ej
                  dsimp only at pu ej
                  rw [if_neg d0] at ej
                  generalize cnt (prV ν r k p q) 576 = N at *
                  refine ⟨(-2), ν, ν, ?_, ?_, I_ok J⟩
                  · rw [clsA]
                    simp (disch := first | omega | decide | with_reducible assumption) only [i88_136, i88_138, i88_139, i88_139N, i88_141, i88_141N, i88_143, i88_143N, i88_145, i88_147, i88_150, i88_152, i88_154, i88_157, i88_159, pu, nI_lt0, b_v_s, b_i_s, b_n_s, b_r_s, b_r_n, b_m_s, b_c_s, b_c_v, if_false]
                  · rw [mdl _ hAK.symm, ej, fin, if_neg d0]
                | some u =>
                  rw [hf] at pu ej
                  dsimp only at pu ej
                  rw [if_neg d0] at ej
                  obtain ⟨_, u2, u3, _⟩ := fst_some _ _ _ hf
                  unfold atV prV at u3
                  rw [Bool.and_eq_true, Bool.and_eq_true, decide_eq_true_eq, decide_eq_true_eq] at u3
                  obtain ⟨⟨u4, u5⟩, _⟩ := u3
                  have ba := bt_of_ky u4
                  have bb := bt_of_ky (r := r) (k := k) (p := q) (a := u % 24) (by rw [u5]; exact u4)
                  have la := (C_ky (r := r) J hl hp ba).1
                  have lb := (C_ky (r := r) J hl hq bb).1
                  have wa := C_firstWord J hl hp la
                  have wb := C_firstWord J hl hq lb
                  have ne24 : ¬ nI 24 = 0 := by decide
                  refine ⟨(vlV ν l p q (decide (W < 40)) u), ν, ν, ?_, ?_, I_ok J⟩
                  · rw [clsA]
                    unfold vlV
                    have neg := m1_neg (t := u) (by omega)
                    by_cases d : W < 40
                    · rw [decide_eq_true d, if_pos rfl]
                      simp (disch := first | omega | exact ne24 | decide | with_reducible assumption) only [i88_136, i88_138, i88_139, i88_139N, i88_141, i88_141N, i88_143, i88_143N, i88_145, i88_147, i88_150, i88_152, i88_154, i88_157, i88_159, i88_160, i88_161, i88_163, i88_164, i88_166, i88_168, i88_170, i88_173, i88_173N, i88_175, i88_175N, i88_177, i88_179, i88_181, i88_182, i88_185, i88_188, i88_188N, i88_190, i88_190N, i88_192, i88_194, i88_196, i88_197, i88_200, pu, neg, m1_m1, d, n24, nI_div, wa, b_v_s, b_i_s, b_n_s, b_r_s, b_r_n, b_m_s, b_c_s, b_c_v, if_true]
                    · rw [decide_eq_false d, if_neg (by decide)]
                      simp (disch := first | omega | exact ne24 | decide | with_reducible assumption) only [i88_136, i88_138, i88_139, i88_139N, i88_141, i88_141N, i88_143, i88_143N, i88_145, i88_147, i88_150, i88_152, i88_154, i88_157, i88_159, i88_160, i88_161, i88_163, i88_164, i88_166, i88_168, i88_170, i88_173, i88_173N, i88_175, i88_175N, i88_177, i88_179, i88_181, i88_182, i88_185, i88_188, i88_188N, i88_190, i88_190N, i88_192, i88_194, i88_196, i88_197, i88_200, pu, neg, m1_m1, d, n24, nI_rem, wb, b_v_s, b_i_s, b_n_s, b_r_s, b_r_n, b_m_s, b_c_s, b_c_v, if_true, if_false]
                  · rw [mdl _ hAK.symm, ej, fin, if_neg d0]
            · refine ⟨(-102), μ, μ, ?_, ?_, I_ok I⟩
              · rw [go1]
                have d0 : ¬ W = 0 := fun z => wok (Or.inl z)
                by_cases d2 : W < 10
                · simp (disch := first | omega | decide | with_reducible assumption) only [i88_65, i88_67, i88_70, i88_72, i88_74, i88_77, i88_79, i88_81, i88_84, i88_86, d0, d2, if_true, if_false]
                · have d3 : (69 : Int32) < W := by
                    rw [Int32.lt_iff_toInt_lt, show (10 : Int32).toInt = 10 by decide] at d2
                    rw [Int32.lt_iff_toInt_lt, show (69 : Int32).toInt = 69 by decide]
                    have : ¬ (10 ≤ W.toInt ∧ W.toInt ≤ 69) := fun z => wok (Or.inr z)
                    omega
                  simp (disch := first | omega | decide | with_reducible assumption) only [i88_65, i88_67, i88_70, i88_72, i88_74, i88_77, i88_79, i88_81, i88_84, i88_86, d0, d2, d3, if_true, if_false]
              · rw [go2 μ I]
                have d0 : ¬ W = 0 := fun z => wok (Or.inl z)
                have i69 := in_1069 (μ := μ) (x := W)
                rw [decide_eq_false (fun z => wok (Or.inr z))] at i69
                simp (disch := first | omega | decide | with_reducible assumption) only [i163_45, i163_47, i163_50, i163_52, i163_53, i163_56, i163_59, i163_62, i163_65, i163_67, d0, i69, bI_0, b_v_s, b_i_s, b_n_s, b_r_s, b_r_n, b_m_s, b_c_s, b_c_v, if_true, if_false]
end join
